section
/-- a private method of a class that the tables say can be made, by its rows of tables_1 -/
def lw_okq (q : MethodName × Nat) : Prop := (q.1.cls ≠ "java/lang/invoke/MethodHandle" ∧ q.1.cls ≠ "java/lang/invoke/VarHandle") ∧ Cond.instantiable q.1.cls q.2 ∈ tables_1 ∧ Cond.privateMethod q.1 ∈ tables_1 ∧ Cond.instanceMethod q.1 ∈ tables_1
theorem lw_p0 : lw_okq (⟨"ShornSins", "textOf", "(I)LShornSins$Text;"⟩, 10) := ⟨⟨by decide +kernel, by decide +kernel⟩, List.mem_of_getElem? (i := 23) (by decide +kernel), List.mem_of_getElem? (i := 376) (by decide +kernel), List.mem_of_getElem? (i := 377) (by decide +kernel)⟩
theorem lw_p1 : lw_okq (⟨"ShornSins", "readTexts", "()V"⟩, 10) := ⟨⟨by decide +kernel, by decide +kernel⟩, List.mem_of_getElem? (i := 23) (by decide +kernel), List.mem_of_getElem? (i := 384) (by decide +kernel), List.mem_of_getElem? (i := 385) (by decide +kernel)⟩
theorem lw_p2 : lw_okq (⟨"ShornSins$Text", "meaningAt", "(I)I"⟩, 5) := ⟨⟨by decide +kernel, by decide +kernel⟩, List.mem_of_getElem? (i := 31) (by decide +kernel), List.mem_of_getElem? (i := 396) (by decide +kernel), List.mem_of_getElem? (i := 397) (by decide +kernel)⟩
theorem lw_p3 : lw_okq (⟨"ShornSins$Text", "signsAt", "(I)Ljava/lang/String;"⟩, 5) := ⟨⟨by decide +kernel, by decide +kernel⟩, List.mem_of_getElem? (i := 31) (by decide +kernel), List.mem_of_getElem? (i := 400) (by decide +kernel), List.mem_of_getElem? (i := 401) (by decide +kernel)⟩
theorem lw_p4 : lw_okq (⟨"ShornSins", "unsettle", "()V"⟩, 10) := ⟨⟨by decide +kernel, by decide +kernel⟩, List.mem_of_getElem? (i := 23) (by decide +kernel), List.mem_of_getElem? (i := 493) (by decide +kernel), List.mem_of_getElem? (i := 494) (by decide +kernel)⟩
theorem lw_p5 : lw_okq (⟨"ShornSins", "isPerson", "(I)Z"⟩, 10) := ⟨⟨by decide +kernel, by decide +kernel⟩, List.mem_of_getElem? (i := 23) (by decide +kernel), List.mem_of_getElem? (i := 526) (by decide +kernel), List.mem_of_getElem? (i := 527) (by decide +kernel)⟩
theorem lw_p6 : lw_okq (⟨"ShornSins", "isDeed", "(I)Z"⟩, 10) := ⟨⟨by decide +kernel, by decide +kernel⟩, List.mem_of_getElem? (i := 23) (by decide +kernel), List.mem_of_getElem? (i := 538) (by decide +kernel), List.mem_of_getElem? (i := 539) (by decide +kernel)⟩
theorem lw_p7 : lw_okq (⟨"ShornSins", "settle", "()V"⟩, 10) := ⟨⟨by decide +kernel, by decide +kernel⟩, List.mem_of_getElem? (i := 23) (by decide +kernel), List.mem_of_getElem? (i := 603) (by decide +kernel), List.mem_of_getElem? (i := 604) (by decide +kernel)⟩
theorem lw_p8 : lw_okq (⟨"ShornSins$Course", "begin", "()V"⟩, 6) := ⟨⟨by decide +kernel, by decide +kernel⟩, List.mem_of_getElem? (i := 148) (by decide +kernel), List.mem_of_getElem? (i := 611) (by decide +kernel), List.mem_of_getElem? (i := 612) (by decide +kernel)⟩
theorem lw_p9 : lw_okq (⟨"ShornSins$Course", "doDeeds", "(I)I"⟩, 6) := ⟨⟨by decide +kernel, by decide +kernel⟩, List.mem_of_getElem? (i := 148) (by decide +kernel), List.mem_of_getElem? (i := 619) (by decide +kernel), List.mem_of_getElem? (i := 620) (by decide +kernel)⟩
theorem lw_p10 : lw_okq (⟨"ShornSins$Course", "lives", "(I)Z"⟩, 6) := ⟨⟨by decide +kernel, by decide +kernel⟩, List.mem_of_getElem? (i := 148) (by decide +kernel), List.mem_of_getElem? (i := 623) (by decide +kernel), List.mem_of_getElem? (i := 624) (by decide +kernel)⟩
theorem lw_p11 : lw_okq (⟨"ShornSins$Course", "moult", "(I)V"⟩, 6) := ⟨⟨by decide +kernel, by decide +kernel⟩, List.mem_of_getElem? (i := 148) (by decide +kernel), List.mem_of_getElem? (i := 630) (by decide +kernel), List.mem_of_getElem? (i := 631) (by decide +kernel)⟩
theorem lw_p12 : lw_okq (⟨"ShornSins$Course", "travel", "(I)V"⟩, 6) := ⟨⟨by decide +kernel, by decide +kernel⟩, List.mem_of_getElem? (i := 148) (by decide +kernel), List.mem_of_getElem? (i := 634) (by decide +kernel), List.mem_of_getElem? (i := 635) (by decide +kernel)⟩
theorem lw_p13 : lw_okq (⟨"ShornSins$Course", "makeRounds", "(IZ)V"⟩, 6) := ⟨⟨by decide +kernel, by decide +kernel⟩, List.mem_of_getElem? (i := 148) (by decide +kernel), List.mem_of_getElem? (i := 639) (by decide +kernel), List.mem_of_getElem? (i := 640) (by decide +kernel)⟩
theorem lw_p14 : lw_okq (⟨"ShornSins$Course", "woolliestIn", "(I)I"⟩, 6) := ⟨⟨by decide +kernel, by decide +kernel⟩, List.mem_of_getElem? (i := 148) (by decide +kernel), List.mem_of_getElem? (i := 643) (by decide +kernel), List.mem_of_getElem? (i := 644) (by decide +kernel)⟩
theorem lw_p15 : lw_okq (⟨"ShornSins$Course", "shear", "(IIZ)V"⟩, 6) := ⟨⟨by decide +kernel, by decide +kernel⟩, List.mem_of_getElem? (i := 148) (by decide +kernel), List.mem_of_getElem? (i := 647) (by decide +kernel), List.mem_of_getElem? (i := 648) (by decide +kernel)⟩
def lw_privs_1 : List (MethodName × Nat) := [(⟨"ShornSins", "textOf", "(I)LShornSins$Text;"⟩, 10), (⟨"ShornSins", "readTexts", "()V"⟩, 10), (⟨"ShornSins$Text", "meaningAt", "(I)I"⟩, 5), (⟨"ShornSins$Text", "signsAt", "(I)Ljava/lang/String;"⟩, 5), (⟨"ShornSins", "unsettle", "()V"⟩, 10), (⟨"ShornSins", "isPerson", "(I)Z"⟩, 10), (⟨"ShornSins", "isDeed", "(I)Z"⟩, 10), (⟨"ShornSins", "settle", "()V"⟩, 10), (⟨"ShornSins$Course", "begin", "()V"⟩, 6), (⟨"ShornSins$Course", "doDeeds", "(I)I"⟩, 6), (⟨"ShornSins$Course", "lives", "(I)Z"⟩, 6), (⟨"ShornSins$Course", "moult", "(I)V"⟩, 6), (⟨"ShornSins$Course", "travel", "(I)V"⟩, 6), (⟨"ShornSins$Course", "makeRounds", "(IZ)V"⟩, 6), (⟨"ShornSins$Course", "woolliestIn", "(I)I"⟩, 6), (⟨"ShornSins$Course", "shear", "(IIZ)V"⟩, 6)]
theorem lw_r1 : ∀ q ∈ lw_privs_1, lw_okq q := List.forall_mem_cons.mpr ⟨lw_p0, List.forall_mem_cons.mpr ⟨lw_p1, List.forall_mem_cons.mpr ⟨lw_p2, List.forall_mem_cons.mpr ⟨lw_p3, List.forall_mem_cons.mpr ⟨lw_p4, List.forall_mem_cons.mpr ⟨lw_p5, List.forall_mem_cons.mpr ⟨lw_p6, List.forall_mem_cons.mpr ⟨lw_p7, List.forall_mem_cons.mpr ⟨lw_p8, List.forall_mem_cons.mpr ⟨lw_p9, List.forall_mem_cons.mpr ⟨lw_p10, List.forall_mem_cons.mpr ⟨lw_p11, List.forall_mem_cons.mpr ⟨lw_p12, List.forall_mem_cons.mpr ⟨lw_p13, List.forall_mem_cons.mpr ⟨lw_p14, List.forall_mem_cons.mpr ⟨lw_p15, fun _ h => absurd h List.not_mem_nil⟩⟩⟩⟩⟩⟩⟩⟩⟩⟩⟩⟩⟩⟩⟩⟩
theorem lw_p16 : lw_okq (⟨"ShornSins$Course", "livesBehind", "(II)Z"⟩, 6) := ⟨⟨by decide +kernel, by decide +kernel⟩, List.mem_of_getElem? (i := 148) (by decide +kernel), List.mem_of_getElem? (i := 682) (by decide +kernel), List.mem_of_getElem? (i := 683) (by decide +kernel)⟩
theorem lw_p17 : lw_okq (⟨"ShornSins$Plans", "measure", "(I)V"⟩, 11) := ⟨⟨by decide +kernel, by decide +kernel⟩, List.mem_of_getElem? (i := 205) (by decide +kernel), List.mem_of_getElem? (i := 747) (by decide +kernel), List.mem_of_getElem? (i := 748) (by decide +kernel)⟩
theorem lw_p18 : lw_okq (⟨"ShornSins$Witness", "keepWools", "(I)V"⟩, 5) := ⟨⟨by decide +kernel, by decide +kernel⟩, List.mem_of_getElem? (i := 263) (by decide +kernel), List.mem_of_getElem? (i := 804) (by decide +kernel), List.mem_of_getElem? (i := 805) (by decide +kernel)⟩
theorem lw_p19 : lw_okq (⟨"ShornSins$Witness", "comesOut", "()Z"⟩, 5) := ⟨⟨by decide +kernel, by decide +kernel⟩, List.mem_of_getElem? (i := 263) (by decide +kernel), List.mem_of_getElem? (i := 812) (by decide +kernel), List.mem_of_getElem? (i := 813) (by decide +kernel)⟩
theorem lw_p20 : lw_okq (⟨"ShornSins$Witness", "lastSeen", "()I"⟩, 5) := ⟨⟨by decide +kernel, by decide +kernel⟩, List.mem_of_getElem? (i := 263) (by decide +kernel), List.mem_of_getElem? (i := 824) (by decide +kernel), List.mem_of_getElem? (i := 825) (by decide +kernel)⟩
theorem lw_p21 : lw_okq (⟨"ShornSins$Witness", "mostAlike", "(II)I"⟩, 5) := ⟨⟨by decide +kernel, by decide +kernel⟩, List.mem_of_getElem? (i := 263) (by decide +kernel), List.mem_of_getElem? (i := 838) (by decide +kernel), List.mem_of_getElem? (i := 839) (by decide +kernel)⟩
theorem lw_p22 : lw_okq (⟨"ShornSins$Witness", "manyLike", "(III)I"⟩, 5) := ⟨⟨by decide +kernel, by decide +kernel⟩, List.mem_of_getElem? (i := 263) (by decide +kernel), List.mem_of_getElem? (i := 842) (by decide +kernel), List.mem_of_getElem? (i := 843) (by decide +kernel)⟩
theorem lw_p23 : lw_okq (⟨"ShornSins$Chances", "supposeFrosts", "(II)V"⟩, 6) := ⟨⟨by decide +kernel, by decide +kernel⟩, List.mem_of_getElem? (i := 289) (by decide +kernel), List.mem_of_getElem? (i := 869) (by decide +kernel), List.mem_of_getElem? (i := 870) (by decide +kernel)⟩
theorem lw_p24 : lw_okq (⟨"ShornSins$Chances", "addToLiving", "(J)V"⟩, 6) := ⟨⟨by decide +kernel, by decide +kernel⟩, List.mem_of_getElem? (i := 289) (by decide +kernel), List.mem_of_getElem? (i := 875) (by decide +kernel), List.mem_of_getElem? (i := 876) (by decide +kernel)⟩
theorem lw_p25 : lw_okq (⟨"ShornSins$Chances", "reduce", "(I)V"⟩, 6) := ⟨⟨by decide +kernel, by decide +kernel⟩, List.mem_of_getElem? (i := 289) (by decide +kernel), List.mem_of_getElem? (i := 880) (by decide +kernel), List.mem_of_getElem? (i := 881) (by decide +kernel)⟩
theorem lw_p26 : lw_okq (⟨"ShornSins$Chances", "lot", "(I)I"⟩, 6) := ⟨⟨by decide +kernel, by decide +kernel⟩, List.mem_of_getElem? (i := 289) (by decide +kernel), List.mem_of_getElem? (i := 900) (by decide +kernel), List.mem_of_getElem? (i := 901) (by decide +kernel)⟩
theorem lw_p27 : lw_okq (⟨"ShornSins", "digestPerson", "(JI)J"⟩, 10) := ⟨⟨by decide +kernel, by decide +kernel⟩, List.mem_of_getElem? (i := 23) (by decide +kernel), List.mem_of_getElem? (i := 971) (by decide +kernel), List.mem_of_getElem? (i := 972) (by decide +kernel)⟩
theorem lw_p28 : lw_okq (⟨"ShornSinsModel", "faultOf", "(I)I"⟩, 56) := ⟨⟨by decide +kernel, by decide +kernel⟩, List.mem_of_getElem? (i := 993) (by decide +kernel), List.mem_of_getElem? (i := 1191) (by decide +kernel), List.mem_of_getElem? (i := 1192) (by decide +kernel)⟩
theorem lw_p29 : lw_okq (⟨"ShornSinsModel", "readsParts", "(I)I"⟩, 56) := ⟨⟨by decide +kernel, by decide +kernel⟩, List.mem_of_getElem? (i := 993) (by decide +kernel), List.mem_of_getElem? (i := 1195) (by decide +kernel), List.mem_of_getElem? (i := 1196) (by decide +kernel)⟩
theorem lw_p30 : lw_okq (⟨"ShornSinsModel", "readsPerson", "(II)I"⟩, 56) := ⟨⟨by decide +kernel, by decide +kernel⟩, List.mem_of_getElem? (i := 993) (by decide +kernel), List.mem_of_getElem? (i := 1199) (by decide +kernel), List.mem_of_getElem? (i := 1200) (by decide +kernel)⟩
theorem lw_p31 : lw_okq (⟨"ShornSinsModel", "byteAt", "(II)I"⟩, 56) := ⟨⟨by decide +kernel, by decide +kernel⟩, List.mem_of_getElem? (i := 993) (by decide +kernel), List.mem_of_getElem? (i := 1203) (by decide +kernel), List.mem_of_getElem? (i := 1204) (by decide +kernel)⟩
def lw_privs_2 : List (MethodName × Nat) := [(⟨"ShornSins$Course", "livesBehind", "(II)Z"⟩, 6), (⟨"ShornSins$Plans", "measure", "(I)V"⟩, 11), (⟨"ShornSins$Witness", "keepWools", "(I)V"⟩, 5), (⟨"ShornSins$Witness", "comesOut", "()Z"⟩, 5), (⟨"ShornSins$Witness", "lastSeen", "()I"⟩, 5), (⟨"ShornSins$Witness", "mostAlike", "(II)I"⟩, 5), (⟨"ShornSins$Witness", "manyLike", "(III)I"⟩, 5), (⟨"ShornSins$Chances", "supposeFrosts", "(II)V"⟩, 6), (⟨"ShornSins$Chances", "addToLiving", "(J)V"⟩, 6), (⟨"ShornSins$Chances", "reduce", "(I)V"⟩, 6), (⟨"ShornSins$Chances", "lot", "(I)I"⟩, 6), (⟨"ShornSins", "digestPerson", "(JI)J"⟩, 10), (⟨"ShornSinsModel", "faultOf", "(I)I"⟩, 56), (⟨"ShornSinsModel", "readsParts", "(I)I"⟩, 56), (⟨"ShornSinsModel", "readsPerson", "(II)I"⟩, 56), (⟨"ShornSinsModel", "byteAt", "(II)I"⟩, 56)]
theorem lw_r2 : ∀ q ∈ lw_privs_2, lw_okq q := List.forall_mem_cons.mpr ⟨lw_p16, List.forall_mem_cons.mpr ⟨lw_p17, List.forall_mem_cons.mpr ⟨lw_p18, List.forall_mem_cons.mpr ⟨lw_p19, List.forall_mem_cons.mpr ⟨lw_p20, List.forall_mem_cons.mpr ⟨lw_p21, List.forall_mem_cons.mpr ⟨lw_p22, List.forall_mem_cons.mpr ⟨lw_p23, List.forall_mem_cons.mpr ⟨lw_p24, List.forall_mem_cons.mpr ⟨lw_p25, List.forall_mem_cons.mpr ⟨lw_p26, List.forall_mem_cons.mpr ⟨lw_p27, List.forall_mem_cons.mpr ⟨lw_p28, List.forall_mem_cons.mpr ⟨lw_p29, List.forall_mem_cons.mpr ⟨lw_p30, List.forall_mem_cons.mpr ⟨lw_p31, fun _ h => absurd h List.not_mem_nil⟩⟩⟩⟩⟩⟩⟩⟩⟩⟩⟩⟩⟩⟩⟩⟩
theorem lw_p32 : lw_okq (⟨"ShornSinsModel", "readsDeed", "(II)I"⟩, 56) := ⟨⟨by decide +kernel, by decide +kernel⟩, List.mem_of_getElem? (i := 993) (by decide +kernel), List.mem_of_getElem? (i := 1207) (by decide +kernel), List.mem_of_getElem? (i := 1208) (by decide +kernel)⟩
theorem lw_p33 : lw_okq (⟨"ShornSinsModel", "isPerson", "(I)Z"⟩, 56) := ⟨⟨by decide +kernel, by decide +kernel⟩, List.mem_of_getElem? (i := 993) (by decide +kernel), List.mem_of_getElem? (i := 1215) (by decide +kernel), List.mem_of_getElem? (i := 1216) (by decide +kernel)⟩
theorem lw_p34 : lw_okq (⟨"ShornSinsModel", "reads", "()V"⟩, 56) := ⟨⟨by decide +kernel, by decide +kernel⟩, List.mem_of_getElem? (i := 993) (by decide +kernel), List.mem_of_getElem? (i := 1219) (by decide +kernel), List.mem_of_getElem? (i := 1220) (by decide +kernel)⟩
theorem lw_p35 : lw_okq (⟨"ShornSinsModel", "personOf", "(II)I"⟩, 56) := ⟨⟨by decide +kernel, by decide +kernel⟩, List.mem_of_getElem? (i := 993) (by decide +kernel), List.mem_of_getElem? (i := 1223) (by decide +kernel), List.mem_of_getElem? (i := 1224) (by decide +kernel)⟩
theorem lw_p36 : lw_okq (⟨"ShornSinsModel", "isDeed", "(I)Z"⟩, 56) := ⟨⟨by decide +kernel, by decide +kernel⟩, List.mem_of_getElem? (i := 993) (by decide +kernel), List.mem_of_getElem? (i := 1231) (by decide +kernel), List.mem_of_getElem? (i := 1232) (by decide +kernel)⟩
theorem lw_p37 : lw_okq (⟨"ShornSinsModel", "deedOf", "(II)I"⟩, 56) := ⟨⟨by decide +kernel, by decide +kernel⟩, List.mem_of_getElem? (i := 993) (by decide +kernel), List.mem_of_getElem? (i := 1235) (by decide +kernel), List.mem_of_getElem? (i := 1236) (by decide +kernel)⟩
theorem lw_p38 : lw_okq (⟨"ShornSinsModel", "meets", "(I)I"⟩, 56) := ⟨⟨by decide +kernel, by decide +kernel⟩, List.mem_of_getElem? (i := 993) (by decide +kernel), List.mem_of_getElem? (i := 1272) (by decide +kernel), List.mem_of_getElem? (i := 1273) (by decide +kernel)⟩
theorem lw_p39 : lw_okq (⟨"ShornSinsModel", "woolOf", "(III)I"⟩, 56) := ⟨⟨by decide +kernel, by decide +kernel⟩, List.mem_of_getElem? (i := 993) (by decide +kernel), List.mem_of_getElem? (i := 1281) (by decide +kernel), List.mem_of_getElem? (i := 1282) (by decide +kernel)⟩
theorem lw_p40 : lw_okq (⟨"ShornSinsModel", "runsTold", "()V"⟩, 56) := ⟨⟨by decide +kernel, by decide +kernel⟩, List.mem_of_getElem? (i := 993) (by decide +kernel), List.mem_of_getElem? (i := 1285) (by decide +kernel), List.mem_of_getElem? (i := 1286) (by decide +kernel)⟩
theorem lw_p41 : lw_okq (⟨"ShornSinsModel", "asTold", "()V"⟩, 56) := ⟨⟨by decide +kernel, by decide +kernel⟩, List.mem_of_getElem? (i := 993) (by decide +kernel), List.mem_of_getElem? (i := 1289) (by decide +kernel), List.mem_of_getElem? (i := 1290) (by decide +kernel)⟩
theorem lw_p42 : lw_okq (⟨"ShornSinsModel", "runs", "()V"⟩, 56) := ⟨⟨by decide +kernel, by decide +kernel⟩, List.mem_of_getElem? (i := 993) (by decide +kernel), List.mem_of_getElem? (i := 1293) (by decide +kernel), List.mem_of_getElem? (i := 1294) (by decide +kernel)⟩
theorem lw_p43 : lw_okq (⟨"ShornSinsModel", "grows", "(I)V"⟩, 56) := ⟨⟨by decide +kernel, by decide +kernel⟩, List.mem_of_getElem? (i := 993) (by decide +kernel), List.mem_of_getElem? (i := 1297) (by decide +kernel), List.mem_of_getElem? (i := 1298) (by decide +kernel)⟩
theorem lw_p44 : lw_okq (⟨"ShornSinsModel", "lives", "(I)Z"⟩, 56) := ⟨⟨by decide +kernel, by decide +kernel⟩, List.mem_of_getElem? (i := 993) (by decide +kernel), List.mem_of_getElem? (i := 1304) (by decide +kernel), List.mem_of_getElem? (i := 1305) (by decide +kernel)⟩
theorem lw_p45 : lw_okq (⟨"ShornSinsModel", "goes", "(I)V"⟩, 56) := ⟨⟨by decide +kernel, by decide +kernel⟩, List.mem_of_getElem? (i := 993) (by decide +kernel), List.mem_of_getElem? (i := 1311) (by decide +kernel), List.mem_of_getElem? (i := 1312) (by decide +kernel)⟩
theorem lw_p46 : lw_okq (⟨"ShornSinsModel", "shearsAll", "(I)V"⟩, 56) := ⟨⟨by decide +kernel, by decide +kernel⟩, List.mem_of_getElem? (i := 993) (by decide +kernel), List.mem_of_getElem? (i := 1315) (by decide +kernel), List.mem_of_getElem? (i := 1316) (by decide +kernel)⟩
theorem lw_p47 : lw_okq (⟨"ShornSinsModel", "nextIn", "(I)I"⟩, 56) := ⟨⟨by decide +kernel, by decide +kernel⟩, List.mem_of_getElem? (i := 993) (by decide +kernel), List.mem_of_getElem? (i := 1319) (by decide +kernel), List.mem_of_getElem? (i := 1320) (by decide +kernel)⟩
def lw_privs_3 : List (MethodName × Nat) := [(⟨"ShornSinsModel", "readsDeed", "(II)I"⟩, 56), (⟨"ShornSinsModel", "isPerson", "(I)Z"⟩, 56), (⟨"ShornSinsModel", "reads", "()V"⟩, 56), (⟨"ShornSinsModel", "personOf", "(II)I"⟩, 56), (⟨"ShornSinsModel", "isDeed", "(I)Z"⟩, 56), (⟨"ShornSinsModel", "deedOf", "(II)I"⟩, 56), (⟨"ShornSinsModel", "meets", "(I)I"⟩, 56), (⟨"ShornSinsModel", "woolOf", "(III)I"⟩, 56), (⟨"ShornSinsModel", "runsTold", "()V"⟩, 56), (⟨"ShornSinsModel", "asTold", "()V"⟩, 56), (⟨"ShornSinsModel", "runs", "()V"⟩, 56), (⟨"ShornSinsModel", "grows", "(I)V"⟩, 56), (⟨"ShornSinsModel", "lives", "(I)Z"⟩, 56), (⟨"ShornSinsModel", "goes", "(I)V"⟩, 56), (⟨"ShornSinsModel", "shearsAll", "(I)V"⟩, 56), (⟨"ShornSinsModel", "nextIn", "(I)I"⟩, 56)]
theorem lw_r3 : ∀ q ∈ lw_privs_3, lw_okq q := List.forall_mem_cons.mpr ⟨lw_p32, List.forall_mem_cons.mpr ⟨lw_p33, List.forall_mem_cons.mpr ⟨lw_p34, List.forall_mem_cons.mpr ⟨lw_p35, List.forall_mem_cons.mpr ⟨lw_p36, List.forall_mem_cons.mpr ⟨lw_p37, List.forall_mem_cons.mpr ⟨lw_p38, List.forall_mem_cons.mpr ⟨lw_p39, List.forall_mem_cons.mpr ⟨lw_p40, List.forall_mem_cons.mpr ⟨lw_p41, List.forall_mem_cons.mpr ⟨lw_p42, List.forall_mem_cons.mpr ⟨lw_p43, List.forall_mem_cons.mpr ⟨lw_p44, List.forall_mem_cons.mpr ⟨lw_p45, List.forall_mem_cons.mpr ⟨lw_p46, List.forall_mem_cons.mpr ⟨lw_p47, fun _ h => absurd h List.not_mem_nil⟩⟩⟩⟩⟩⟩⟩⟩⟩⟩⟩⟩⟩⟩⟩⟩
theorem lw_p48 : lw_okq (⟨"ShornSinsModel", "shears", "(II)V"⟩, 56) := ⟨⟨by decide +kernel, by decide +kernel⟩, List.mem_of_getElem? (i := 993) (by decide +kernel), List.mem_of_getElem? (i := 1323) (by decide +kernel), List.mem_of_getElem? (i := 1324) (by decide +kernel)⟩
theorem lw_p49 : lw_okq (⟨"ShornSinsModel", "keeps", "(I)V"⟩, 56) := ⟨⟨by decide +kernel, by decide +kernel⟩, List.mem_of_getElem? (i := 993) (by decide +kernel), List.mem_of_getElem? (i := 1327) (by decide +kernel), List.mem_of_getElem? (i := 1328) (by decide +kernel)⟩
theorem lw_p50 : lw_okq (⟨"ShornSinsModel", "heaviestNow", "()I"⟩, 56) := ⟨⟨by decide +kernel, by decide +kernel⟩, List.mem_of_getElem? (i := 993) (by decide +kernel), List.mem_of_getElem? (i := 1331) (by decide +kernel), List.mem_of_getElem? (i := 1332) (by decide +kernel)⟩
theorem lw_p51 : lw_okq (⟨"ShornSinsModel", "diesOf", "(I)I"⟩, 56) := ⟨⟨by decide +kernel, by decide +kernel⟩, List.mem_of_getElem? (i := 993) (by decide +kernel), List.mem_of_getElem? (i := 1339) (by decide +kernel), List.mem_of_getElem? (i := 1340) (by decide +kernel)⟩
theorem lw_p52 : lw_okq (⟨"ShornSinsModel", "clothOf", "(III)I"⟩, 56) := ⟨⟨by decide +kernel, by decide +kernel⟩, List.mem_of_getElem? (i := 993) (by decide +kernel), List.mem_of_getElem? (i := 1347) (by decide +kernel), List.mem_of_getElem? (i := 1348) (by decide +kernel)⟩
theorem lw_p53 : lw_okq (⟨"ShornSinsModel", "thornOf", "(I)I"⟩, 56) := ⟨⟨by decide +kernel, by decide +kernel⟩, List.mem_of_getElem? (i := 993) (by decide +kernel), List.mem_of_getElem? (i := 1355) (by decide +kernel), List.mem_of_getElem? (i := 1356) (by decide +kernel)⟩
theorem lw_p54 : lw_okq (⟨"ShornSinsModel", "taxOf", "(I)I"⟩, 56) := ⟨⟨by decide +kernel, by decide +kernel⟩, List.mem_of_getElem? (i := 993) (by decide +kernel), List.mem_of_getElem? (i := 1363) (by decide +kernel), List.mem_of_getElem? (i := 1364) (by decide +kernel)⟩
theorem lw_p55 : lw_okq (⟨"ShornSinsModel", "heaviestOf", "(I)I"⟩, 56) := ⟨⟨by decide +kernel, by decide +kernel⟩, List.mem_of_getElem? (i := 993) (by decide +kernel), List.mem_of_getElem? (i := 1371) (by decide +kernel), List.mem_of_getElem? (i := 1372) (by decide +kernel)⟩
theorem lw_p56 : lw_okq (⟨"ShornSinsModel", "firstOf", "(I)I"⟩, 56) := ⟨⟨by decide +kernel, by decide +kernel⟩, List.mem_of_getElem? (i := 993) (by decide +kernel), List.mem_of_getElem? (i := 1379) (by decide +kernel), List.mem_of_getElem? (i := 1380) (by decide +kernel)⟩
theorem lw_p57 : lw_okq (⟨"ShornSinsModel", "planOf", "(II)I"⟩, 56) := ⟨⟨by decide +kernel, by decide +kernel⟩, List.mem_of_getElem? (i := 993) (by decide +kernel), List.mem_of_getElem? (i := 1387) (by decide +kernel), List.mem_of_getElem? (i := 1388) (by decide +kernel)⟩
theorem lw_p58 : lw_okq (⟨"ShornSinsModel", "worthAll", "()I"⟩, 56) := ⟨⟨by decide +kernel, by decide +kernel⟩, List.mem_of_getElem? (i := 993) (by decide +kernel), List.mem_of_getElem? (i := 1391) (by decide +kernel), List.mem_of_getElem? (i := 1392) (by decide +kernel)⟩
theorem lw_p59 : lw_okq (⟨"ShornSinsModel", "lightBy", "(II)I"⟩, 56) := ⟨⟨by decide +kernel, by decide +kernel⟩, List.mem_of_getElem? (i := 993) (by decide +kernel), List.mem_of_getElem? (i := 1399) (by decide +kernel), List.mem_of_getElem? (i := 1400) (by decide +kernel)⟩
theorem lw_p60 : lw_okq (⟨"ShornSinsModel", "isLight", "(III)Z"⟩, 56) := ⟨⟨by decide +kernel, by decide +kernel⟩, List.mem_of_getElem? (i := 993) (by decide +kernel), List.mem_of_getElem? (i := 1403) (by decide +kernel), List.mem_of_getElem? (i := 1404) (by decide +kernel)⟩
theorem lw_p61 : lw_okq (⟨"ShornSinsModel", "ofRow", "(II)I"⟩, 56) := ⟨⟨by decide +kernel, by decide +kernel⟩, List.mem_of_getElem? (i := 993) (by decide +kernel), List.mem_of_getElem? (i := 1407) (by decide +kernel), List.mem_of_getElem? (i := 1408) (by decide +kernel)⟩
theorem lw_p62 : lw_okq (⟨"ShornSinsModel", "spareBy", "()I"⟩, 56) := ⟨⟨by decide +kernel, by decide +kernel⟩, List.mem_of_getElem? (i := 993) (by decide +kernel), List.mem_of_getElem? (i := 1415) (by decide +kernel), List.mem_of_getElem? (i := 1416) (by decide +kernel)⟩
theorem lw_p63 : lw_okq (⟨"ShornSinsModel", "isSpared", "(I)Z"⟩, 56) := ⟨⟨by decide +kernel, by decide +kernel⟩, List.mem_of_getElem? (i := 993) (by decide +kernel), List.mem_of_getElem? (i := 1419) (by decide +kernel), List.mem_of_getElem? (i := 1420) (by decide +kernel)⟩
def lw_privs_4 : List (MethodName × Nat) := [(⟨"ShornSinsModel", "shears", "(II)V"⟩, 56), (⟨"ShornSinsModel", "keeps", "(I)V"⟩, 56), (⟨"ShornSinsModel", "heaviestNow", "()I"⟩, 56), (⟨"ShornSinsModel", "diesOf", "(I)I"⟩, 56), (⟨"ShornSinsModel", "clothOf", "(III)I"⟩, 56), (⟨"ShornSinsModel", "thornOf", "(I)I"⟩, 56), (⟨"ShornSinsModel", "taxOf", "(I)I"⟩, 56), (⟨"ShornSinsModel", "heaviestOf", "(I)I"⟩, 56), (⟨"ShornSinsModel", "firstOf", "(I)I"⟩, 56), (⟨"ShornSinsModel", "planOf", "(II)I"⟩, 56), (⟨"ShornSinsModel", "worthAll", "()I"⟩, 56), (⟨"ShornSinsModel", "lightBy", "(II)I"⟩, 56), (⟨"ShornSinsModel", "isLight", "(III)Z"⟩, 56), (⟨"ShornSinsModel", "ofRow", "(II)I"⟩, 56), (⟨"ShornSinsModel", "spareBy", "()I"⟩, 56), (⟨"ShornSinsModel", "isSpared", "(I)Z"⟩, 56)]
theorem lw_r4 : ∀ q ∈ lw_privs_4, lw_okq q := List.forall_mem_cons.mpr ⟨lw_p48, List.forall_mem_cons.mpr ⟨lw_p49, List.forall_mem_cons.mpr ⟨lw_p50, List.forall_mem_cons.mpr ⟨lw_p51, List.forall_mem_cons.mpr ⟨lw_p52, List.forall_mem_cons.mpr ⟨lw_p53, List.forall_mem_cons.mpr ⟨lw_p54, List.forall_mem_cons.mpr ⟨lw_p55, List.forall_mem_cons.mpr ⟨lw_p56, List.forall_mem_cons.mpr ⟨lw_p57, List.forall_mem_cons.mpr ⟨lw_p58, List.forall_mem_cons.mpr ⟨lw_p59, List.forall_mem_cons.mpr ⟨lw_p60, List.forall_mem_cons.mpr ⟨lw_p61, List.forall_mem_cons.mpr ⟨lw_p62, List.forall_mem_cons.mpr ⟨lw_p63, fun _ h => absurd h List.not_mem_nil⟩⟩⟩⟩⟩⟩⟩⟩⟩⟩⟩⟩⟩⟩⟩⟩
theorem lw_p64 : lw_okq (⟨"ShornSinsModel", "livesMany", "()I"⟩, 56) := ⟨⟨by decide +kernel, by decide +kernel⟩, List.mem_of_getElem? (i := 993) (by decide +kernel), List.mem_of_getElem? (i := 1423) (by decide +kernel), List.mem_of_getElem? (i := 1424) (by decide +kernel)⟩
theorem lw_p65 : lw_okq (⟨"ShornSinsModel", "homeOf", "(II)I"⟩, 56) := ⟨⟨by decide +kernel, by decide +kernel⟩, List.mem_of_getElem? (i := 993) (by decide +kernel), List.mem_of_getElem? (i := 1431) (by decide +kernel), List.mem_of_getElem? (i := 1432) (by decide +kernel)⟩
theorem lw_p66 : lw_okq (⟨"ShornSinsModel", "neverNow", "()I"⟩, 56) := ⟨⟨by decide +kernel, by decide +kernel⟩, List.mem_of_getElem? (i := 993) (by decide +kernel), List.mem_of_getElem? (i := 1447) (by decide +kernel), List.mem_of_getElem? (i := 1448) (by decide +kernel)⟩
theorem lw_p67 : lw_okq (⟨"ShornSinsModel", "isSeen", "()Z"⟩, 56) := ⟨⟨by decide +kernel, by decide +kernel⟩, List.mem_of_getElem? (i := 993) (by decide +kernel), List.mem_of_getElem? (i := 1451) (by decide +kernel), List.mem_of_getElem? (i := 1452) (by decide +kernel)⟩
theorem lw_p68 : lw_okq (⟨"ShornSinsModel", "wasOf", "(II)I"⟩, 56) := ⟨⟨by decide +kernel, by decide +kernel⟩, List.mem_of_getElem? (i := 993) (by decide +kernel), List.mem_of_getElem? (i := 1459) (by decide +kernel), List.mem_of_getElem? (i := 1460) (by decide +kernel)⟩
theorem lw_p69 : lw_okq (⟨"ShornSinsModel", "askOf", "(I)I"⟩, 56) := ⟨⟨by decide +kernel, by decide +kernel⟩, List.mem_of_getElem? (i := 993) (by decide +kernel), List.mem_of_getElem? (i := 1467) (by decide +kernel), List.mem_of_getElem? (i := 1468) (by decide +kernel)⟩
theorem lw_p70 : lw_okq (⟨"ShornSinsModel", "virtueOf", "(IIII)J"⟩, 56) := ⟨⟨by decide +kernel, by decide +kernel⟩, List.mem_of_getElem? (i := 993) (by decide +kernel), List.mem_of_getElem? (i := 1475) (by decide +kernel), List.mem_of_getElem? (i := 1476) (by decide +kernel)⟩
theorem lw_p71 : lw_okq (⟨"ShornSinsModel", "yearsOf", "(III)I"⟩, 56) := ⟨⟨by decide +kernel, by decide +kernel⟩, List.mem_of_getElem? (i := 993) (by decide +kernel), List.mem_of_getElem? (i := 1490) (by decide +kernel), List.mem_of_getElem? (i := 1491) (by decide +kernel)⟩
theorem lw_p72 : lw_okq (⟨"ShornSinsModel", "lacks", "(III)I"⟩, 56) := ⟨⟨by decide +kernel, by decide +kernel⟩, List.mem_of_getElem? (i := 993) (by decide +kernel), List.mem_of_getElem? (i := 1507) (by decide +kernel), List.mem_of_getElem? (i := 1508) (by decide +kernel)⟩
theorem lw_p73 : lw_okq (⟨"ShornSinsModel", "keep", "(III)V"⟩, 56) := ⟨⟨by decide +kernel, by decide +kernel⟩, List.mem_of_getElem? (i := 993) (by decide +kernel), List.mem_of_getElem? (i := 1511) (by decide +kernel), List.mem_of_getElem? (i := 1512) (by decide +kernel)⟩
theorem lw_p74 : lw_okq (⟨"ShornSinsModel", "sumOf", "(I)I"⟩, 56) := ⟨⟨by decide +kernel, by decide +kernel⟩, List.mem_of_getElem? (i := 993) (by decide +kernel), List.mem_of_getElem? (i := 1532) (by decide +kernel), List.mem_of_getElem? (i := 1533) (by decide +kernel)⟩
theorem lw_p75 : lw_okq (⟨"ShornSinsModel", "personDigest", "(JI)J"⟩, 56) := ⟨⟨by decide +kernel, by decide +kernel⟩, List.mem_of_getElem? (i := 993) (by decide +kernel), List.mem_of_getElem? (i := 1543) (by decide +kernel), List.mem_of_getElem? (i := 1544) (by decide +kernel)⟩
theorem lw_p76 : lw_okq (⟨"ShornSinsModel", "monthDigest", "(JII)J"⟩, 56) := ⟨⟨by decide +kernel, by decide +kernel⟩, List.mem_of_getElem? (i := 993) (by decide +kernel), List.mem_of_getElem? (i := 1547) (by decide +kernel), List.mem_of_getElem? (i := 1548) (by decide +kernel)⟩
theorem lw_p77 : lw_okq (⟨"ShornSinsModel", "deedDigest", "(JI)J"⟩, 56) := ⟨⟨by decide +kernel, by decide +kernel⟩, List.mem_of_getElem? (i := 993) (by decide +kernel), List.mem_of_getElem? (i := 1551) (by decide +kernel), List.mem_of_getElem? (i := 1552) (by decide +kernel)⟩
theorem lw_p78 : lw_okq (⟨"ShornSinsModel", "countyDigest", "(JI)J"⟩, 56) := ⟨⟨by decide +kernel, by decide +kernel⟩, List.mem_of_getElem? (i := 993) (by decide +kernel), List.mem_of_getElem? (i := 1555) (by decide +kernel), List.mem_of_getElem? (i := 1556) (by decide +kernel)⟩
theorem lw_p79 : lw_okq (⟨"ShornSinsModel", "thornDigest", "(JI)J"⟩, 56) := ⟨⟨by decide +kernel, by decide +kernel⟩, List.mem_of_getElem? (i := 993) (by decide +kernel), List.mem_of_getElem? (i := 1559) (by decide +kernel), List.mem_of_getElem? (i := 1560) (by decide +kernel)⟩
def lw_privs_5 : List (MethodName × Nat) := [(⟨"ShornSinsModel", "livesMany", "()I"⟩, 56), (⟨"ShornSinsModel", "homeOf", "(II)I"⟩, 56), (⟨"ShornSinsModel", "neverNow", "()I"⟩, 56), (⟨"ShornSinsModel", "isSeen", "()Z"⟩, 56), (⟨"ShornSinsModel", "wasOf", "(II)I"⟩, 56), (⟨"ShornSinsModel", "askOf", "(I)I"⟩, 56), (⟨"ShornSinsModel", "virtueOf", "(IIII)J"⟩, 56), (⟨"ShornSinsModel", "yearsOf", "(III)I"⟩, 56), (⟨"ShornSinsModel", "lacks", "(III)I"⟩, 56), (⟨"ShornSinsModel", "keep", "(III)V"⟩, 56), (⟨"ShornSinsModel", "sumOf", "(I)I"⟩, 56), (⟨"ShornSinsModel", "personDigest", "(JI)J"⟩, 56), (⟨"ShornSinsModel", "monthDigest", "(JII)J"⟩, 56), (⟨"ShornSinsModel", "deedDigest", "(JI)J"⟩, 56), (⟨"ShornSinsModel", "countyDigest", "(JI)J"⟩, 56), (⟨"ShornSinsModel", "thornDigest", "(JI)J"⟩, 56)]
theorem lw_r5 : ∀ q ∈ lw_privs_5, lw_okq q := List.forall_mem_cons.mpr ⟨lw_p64, List.forall_mem_cons.mpr ⟨lw_p65, List.forall_mem_cons.mpr ⟨lw_p66, List.forall_mem_cons.mpr ⟨lw_p67, List.forall_mem_cons.mpr ⟨lw_p68, List.forall_mem_cons.mpr ⟨lw_p69, List.forall_mem_cons.mpr ⟨lw_p70, List.forall_mem_cons.mpr ⟨lw_p71, List.forall_mem_cons.mpr ⟨lw_p72, List.forall_mem_cons.mpr ⟨lw_p73, List.forall_mem_cons.mpr ⟨lw_p74, List.forall_mem_cons.mpr ⟨lw_p75, List.forall_mem_cons.mpr ⟨lw_p76, List.forall_mem_cons.mpr ⟨lw_p77, List.forall_mem_cons.mpr ⟨lw_p78, List.forall_mem_cons.mpr ⟨lw_p79, fun _ h => absurd h List.not_mem_nil⟩⟩⟩⟩⟩⟩⟩⟩⟩⟩⟩⟩⟩⟩⟩⟩
def lw_privs : List (MethodName × Nat) := lw_privs_1 ++ (lw_privs_2 ++ (lw_privs_3 ++ (lw_privs_4 ++ (lw_privs_5))))
def lw_tbl : List Cond := k2_sels lw_privs ++ tables_1
theorem lw_privs_ok : ∀ q ∈ lw_privs, lw_okq q := by
  show ∀ q ∈ lw_privs_1 ++ (lw_privs_2 ++ (lw_privs_3 ++ (lw_privs_4 ++ (lw_privs_5)))), lw_okq q
  exact List.forall_mem_append.mpr ⟨lw_r1, List.forall_mem_append.mpr ⟨lw_r2, List.forall_mem_append.mpr ⟨lw_r3, List.forall_mem_append.mpr ⟨lw_r4, lw_r5⟩⟩⟩⟩
end
section
/-- the tables' words that every method may take along -/
def zTB : List Cond := lw_tbl.filter goodWord
theorem zmem {w : Cond} (i : Nat) (h : lw_tbl[i]? = some w) (g : goodWord w = true) : w ∈ zTB := List.mem_filter.mpr ⟨List.mem_of_getElem? h, g⟩
theorem zin {C : String} {T : u_T} {N : Nat} (ps : List Nat) (h : u_ws C T N = ps.filterMap (fun i => lw_tbl[i]?)) (g : (u_ws C T N).all goodWord = true) : ∀ w ∈ u_ws C T N, w ∈ zTB := by
  intro w hw
  have h1 := List.all_eq_true.mp g w hw
  rw [h] at hw
  obtain ⟨i, -, hi⟩ := List.mem_filterMap.mp hw
  exact zmem i hi h1
theorem zTB_in : ∀ w ∈ zTB, w ∈ lw_tbl := fun w h => (List.mem_filter.mp h).1
theorem zTB_good : ∀ w ∈ zTB, goodWord w = true := fun w h => (List.mem_filter.mp h).2
def RX0 : String := "ShornSins$Chances"
def TX0 : u_T := fun k => match k with
  | 0 => ("ShornSins$Chances", "other", "LShornSins$Other;", true)
  | 1 => ("ShornSins$Chances", "above", "[J", true)
  | 2 => ("ShornSins$Chances", "below", "[J", true)
  | 3 => ("ShornSins$Chances", "knownSixteenths", "I", false)
  | 4 => ("ShornSins$Chances", "knownLast", "I", false)
  | _ => ("ShornSins$Chances", "lotSeed", "I", false)
def tyX0 : Nat → FieldType := fun k => match k with
  | 0 => .object "ShornSins$Other"
  | 1 => .array .long
  | 2 => .array .long
  | 3 => .int
  | 4 => .int
  | _ => .int
abbrev wsX00 : List Cond := u_ws RX0 TX0 6
theorem nmX0 : ∀ a, a < 6 → ∀ b, b < 6 → a ≠ b → (TX0 a).2.1 ≠ (TX0 b).2.1 := by decide +kernel
theorem tyX0_ok : ∀ k, k < 6 → parseFieldDescriptor (TX0 k).2.2.1 = some (tyX0 k) := by decide +kernel
theorem inX0 : ∀ w ∈ wsX00, w ∈ zTB := zin [380, 382, 384, 386, 388, 390] (by decide +kernel) (by decide +kernel)
def RX1 : String := "ShornSins$Choice"
def TX1 : u_T := fun k => match k with
  | 0 => ("ShornSins$Choice", "one", "I", false)
  | _ => ("ShornSins$Choice", "two", "I", false)
def tyX1 : Nat → FieldType := fun k => match k with
  | 0 => .int
  | _ => .int
abbrev wsX10 : List Cond := u_ws RX1 TX1 2
theorem nmX1 : ∀ a, a < 2 → ∀ b, b < 2 → a ≠ b → (TX1 a).2.1 ≠ (TX1 b).2.1 := by decide +kernel
theorem tyX1_ok : ∀ k, k < 2 → parseFieldDescriptor (TX1 k).2.2.1 = some (tyX1 k) := by decide +kernel
theorem inX1 : ∀ w ∈ wsX10, w ∈ zTB := zin [298, 300] (by decide +kernel) (by decide +kernel)
def RX2 : String := "ShornSins$Course"
def TX2 : u_T := fun k => match k with
  | 0 => ("ShornSins$Course", "told", "LShornSins$Told;", true)
  | 1 => ("ShornSins$Course", "now", "[I", true)
  | 2 => ("ShornSins$Course", "rows", "[I", true)
  | 3 => ("ShornSins$Course", "deaths", "[I", true)
  | 4 => ("ShornSins$Course", "firstMonth", "I", false)
  | _ => ("ShornSins$Course", "firstWho", "I", false)
def tyX2 : Nat → FieldType := fun k => match k with
  | 0 => .object "ShornSins$Told"
  | 1 => .array .int
  | 2 => .array .int
  | 3 => .array .int
  | 4 => .int
  | _ => .int
abbrev wsX20 : List Cond := u_ws RX2 TX2 6
theorem nmX2 : ∀ a, a < 6 → ∀ b, b < 6 → a ≠ b → (TX2 a).2.1 ≠ (TX2 b).2.1 := by decide +kernel
theorem tyX2_ok : ∀ k, k < 6 → parseFieldDescriptor (TX2 k).2.2.1 = some (tyX2 k) := by decide +kernel
theorem inX2 : ∀ w ∈ wsX20, w ∈ zTB := zin [241, 243, 245, 247, 249, 251] (by decide +kernel) (by decide +kernel)
def RX3 : String := "ShornSins$Other"
def TX3 : u_T := fun k => match k with
  | 0 => ("ShornSins$Other", "told", "LShornSins$Told;", true)
  | 1 => ("ShornSins$Other", "as", "LShornSins$Told;", true)
  | _ => ("ShornSins$Other", "course", "LShornSins$Course;", true)
def tyX3 : Nat → FieldType := fun k => match k with
  | 0 => .object "ShornSins$Told"
  | 1 => .object "ShornSins$Told"
  | _ => .object "ShornSins$Course"
abbrev wsX30 : List Cond := u_ws RX3 TX3 3
theorem nmX3 : ∀ a, a < 3 → ∀ b, b < 3 → a ≠ b → (TX3 a).2.1 ≠ (TX3 b).2.1 := by decide +kernel
theorem tyX3_ok : ∀ k, k < 3 → parseFieldDescriptor (TX3 k).2.2.1 = some (tyX3 k) := by decide +kernel
theorem inX3 : ∀ w ∈ wsX30, w ∈ zTB := zin [277, 279, 281] (by decide +kernel) (by decide +kernel)
def RX4 : String := "ShornSins$Plans"
def TX4 : u_T := fun k => match k with
  | 0 => ("ShornSins$Plans", "other", "LShornSins$Other;", true)
  | 1 => ("ShornSins$Plans", "choice", "LShornSins$Choice;", true)
  | 2 => ("ShornSins$Plans", "highest", "[I", true)
  | 3 => ("ShornSins$Plans", "measured", "I", false)
  | 4 => ("ShornSins$Plans", "bestPace", "I", false)
  | 5 => ("ShornSins$Plans", "bestMonth", "I", false)
  | 6 => ("ShornSins$Plans", "bestCounty", "I", false)
  | 7 => ("ShornSins$Plans", "bestWorth", "I", false)
  | 8 => ("ShornSins$Plans", "homePerson", "I", false)
  | 9 => ("ShornSins$Plans", "homeCounty", "I", false)
  | _ => ("ShornSins$Plans", "homeMuch", "I", false)
def tyX4 : Nat → FieldType := fun k => match k with
  | 0 => .object "ShornSins$Other"
  | 1 => .object "ShornSins$Choice"
  | 2 => .array .int
  | 3 => .int
  | 4 => .int
  | 5 => .int
  | 6 => .int
  | 7 => .int
  | 8 => .int
  | 9 => .int
  | _ => .int
abbrev wsX40 : List Cond := u_ws RX4 TX4 11
theorem nmX4 : ∀ a, a < 11 → ∀ b, b < 11 → a ≠ b → (TX4 a).2.1 ≠ (TX4 b).2.1 := by decide +kernel
theorem tyX4_ok : ∀ k, k < 11 → parseFieldDescriptor (TX4 k).2.2.1 = some (tyX4 k) := by decide +kernel
theorem inX4 : ∀ w ∈ wsX40, w ∈ zTB := zin [319, 321, 323, 325, 327, 329, 331, 333, 335, 337, 339] (by decide +kernel) (by decide +kernel)
def RX5 : String := "ShornSins$Rows"
def TX5 : u_T := fun k => match k with
  | 0 => ("ShornSins$Rows", "first", "[I", true)
  | 1 => ("ShornSins$Rows", "second", "[I", true)
  | 2 => ("ShornSins$Rows", "third", "[I", true)
  | _ => ("ShornSins$Rows", "count", "I", false)
def tyX5 : Nat → FieldType := fun k => match k with
  | 0 => .array .int
  | 1 => .array .int
  | 2 => .array .int
  | _ => .int
abbrev wsX50 : List Cond := u_ws RX5 TX5 4
theorem nmX5 : ∀ a, a < 4 → ∀ b, b < 4 → a ≠ b → (TX5 a).2.1 ≠ (TX5 b).2.1 := by decide +kernel
theorem tyX5_ok : ∀ k, k < 4 → parseFieldDescriptor (TX5 k).2.2.1 = some (tyX5 k) := by decide +kernel
theorem inX5 : ∀ w ∈ wsX50, w ∈ zTB := zin [173, 175, 177, 179] (by decide +kernel) (by decide +kernel)
def RX6 : String := "ShornSins$Sheets"
def TX6 : u_T := fun k => match k with
  | 0 => ("ShornSins$Sheets", "forms", "[I", true)
  | 1 => ("ShornSins$Sheets", "lengths", "[I", true)
  | 2 => ("ShornSins$Sheets", "items", "[I", true)
  | _ => ("ShornSins$Sheets", "latest", "I", false)
def tyX6 : Nat → FieldType := fun k => match k with
  | 0 => .array .int
  | 1 => .array .int
  | 2 => .array .int
  | _ => .int
abbrev wsX60 : List Cond := u_ws RX6 TX6 4
theorem nmX6 : ∀ a, a < 4 → ∀ b, b < 4 → a ≠ b → (TX6 a).2.1 ≠ (TX6 b).2.1 := by decide +kernel
theorem tyX6_ok : ∀ k, k < 4 → parseFieldDescriptor (TX6 k).2.2.1 = some (tyX6 k) := by decide +kernel
theorem inX6 : ∀ w ∈ wsX60, w ∈ zTB := zin [408, 410, 412, 414] (by decide +kernel) (by decide +kernel)
def RX7 : String := "ShornSins$Text"
def TX7 : u_T := fun k => match k with
  | 0 => ("ShornSins$Text", "bytes", "[I", true)
  | 1 => ("ShornSins$Text", "firstSigns", "Ljava/lang/String;", true)
  | 2 => ("ShornSins$Text", "secondSigns", "Ljava/lang/String;", true)
  | 3 => ("ShornSins$Text", "thirdSigns", "Ljava/lang/String;", true)
  | _ => ("ShornSins$Text", "length", "I", false)
def tyX7 : Nat → FieldType := fun k => match k with
  | 0 => .array .int
  | 1 => .object "java/lang/String"
  | 2 => .object "java/lang/String"
  | 3 => .object "java/lang/String"
  | _ => .int
abbrev wsX70 : List Cond := u_ws RX7 TX7 5
theorem nmX7 : ∀ a, a < 5 → ∀ b, b < 5 → a ≠ b → (TX7 a).2.1 ≠ (TX7 b).2.1 := by decide +kernel
theorem tyX7_ok : ∀ k, k < 5 → parseFieldDescriptor (TX7 k).2.2.1 = some (tyX7 k) := by decide +kernel
theorem inX7 : ∀ w ∈ wsX70, w ∈ zTB := zin [128, 130, 132, 134, 136] (by decide +kernel) (by decide +kernel)
def RX8 : String := "ShornSins$Told"
def TX8 : u_T := fun k => match k with
  | 0 => ("ShornSins$Told", "people", "LShornSins$Rows;", true)
  | 1 => ("ShornSins$Told", "deeds", "LShornSins$Rows;", true)
  | 2 => ("ShornSins$Told", "rounds", "LShornSins$Rows;", true)
  | 3 => ("ShornSins$Told", "journeys", "LShornSins$Rows;", true)
  | 4 => ("ShornSins$Told", "frosts", "LShornSins$Rows;", true)
  | 5 => ("ShornSins$Told", "grace", "I", false)
  | _ => ("ShornSins$Told", "cold", "I", false)
def tyX8 : Nat → FieldType := fun k => match k with
  | 0 => .object "ShornSins$Rows"
  | 1 => .object "ShornSins$Rows"
  | 2 => .object "ShornSins$Rows"
  | 3 => .object "ShornSins$Rows"
  | 4 => .object "ShornSins$Rows"
  | 5 => .int
  | _ => .int
abbrev wsX80 : List Cond := u_ws RX8 TX8 7
theorem nmX8 : ∀ a, a < 7 → ∀ b, b < 7 → a ≠ b → (TX8 a).2.1 ≠ (TX8 b).2.1 := by decide +kernel
theorem tyX8_ok : ∀ k, k < 7 → parseFieldDescriptor (TX8 k).2.2.1 = some (tyX8 k) := by decide +kernel
theorem inX8 : ∀ w ∈ wsX80, w ∈ zTB := zin [212, 214, 216, 218, 220, 222, 224] (by decide +kernel) (by decide +kernel)
def RX9 : String := "ShornSins$Witness"
def TX9 : u_T := fun k => match k with
  | 0 => ("ShornSins$Witness", "seen", "LShornSins$Rows;", true)
  | 1 => ("ShornSins$Witness", "never", "I", false)
  | 2 => ("ShornSins$Witness", "other", "LShornSins$Other;", true)
  | 3 => ("ShornSins$Witness", "wools", "[I", true)
  | _ => ("ShornSins$Witness", "surveyed", "Z", false)
def tyX9 : Nat → FieldType := fun k => match k with
  | 0 => .object "ShornSins$Rows"
  | 1 => .int
  | 2 => .object "ShornSins$Other"
  | 3 => .array .int
  | _ => .boolean
abbrev wsX90 : List Cond := u_ws RX9 TX9 5
theorem nmX9 : ∀ a, a < 5 → ∀ b, b < 5 → a ≠ b → (TX9 a).2.1 ≠ (TX9 b).2.1 := by decide +kernel
theorem tyX9_ok : ∀ k, k < 5 → parseFieldDescriptor (TX9 k).2.2.1 = some (tyX9 k) := by decide +kernel
theorem inX9 : ∀ w ∈ wsX90, w ∈ zTB := zin [357, 359, 361, 363, 365] (by decide +kernel) (by decide +kernel)
def RX10 : String := "ShornSins"
def TX10 : u_T := fun k => match k with
  | 0 => ("ShornSins", "peopleText", "LShornSins$Text;", true)
  | 1 => ("ShornSins", "deedsText", "LShornSins$Text;", true)
  | 2 => ("ShornSins", "told", "LShornSins$Told;", true)
  | 3 => ("ShornSins", "course", "LShornSins$Course;", true)
  | 4 => ("ShornSins", "other", "LShornSins$Other;", true)
  | 5 => ("ShornSins", "plans", "LShornSins$Plans;", true)
  | 6 => ("ShornSins", "witness", "LShornSins$Witness;", true)
  | 7 => ("ShornSins", "chances", "LShornSins$Chances;", true)
  | 8 => ("ShornSins", "sheets", "LShornSins$Sheets;", true)
  | _ => ("ShornSins", "settled", "Z", false)
def tyX10 : Nat → FieldType := fun k => match k with
  | 0 => .object "ShornSins$Text"
  | 1 => .object "ShornSins$Text"
  | 2 => .object "ShornSins$Told"
  | 3 => .object "ShornSins$Course"
  | 4 => .object "ShornSins$Other"
  | 5 => .object "ShornSins$Plans"
  | 6 => .object "ShornSins$Witness"
  | 7 => .object "ShornSins$Chances"
  | 8 => .object "ShornSins$Sheets"
  | _ => .boolean
abbrev wsX100 : List Cond := u_ws RX10 TX10 10
theorem nmX10 : ∀ a, a < 10 → ∀ b, b < 10 → a ≠ b → (TX10 a).2.1 ≠ (TX10 b).2.1 := by decide +kernel
theorem tyX10_ok : ∀ k, k < 10 → parseFieldDescriptor (TX10 k).2.2.1 = some (tyX10 k) := by decide +kernel
theorem inX10 : ∀ w ∈ wsX100, w ∈ zTB := zin [427, 429, 431, 433, 435, 437, 439, 441, 443, 445] (by decide +kernel) (by decide +kernel)
def RX11 : String := "ShornSinsModel"
def TX11 : u_T := fun k => match k with
  | 0 => ("ShornSinsModel", "typed", "[I", true)
  | 1 => ("ShornSinsModel", "texts", "[I", true)
  | 2 => ("ShornSinsModel", "people", "I", false)
  | 3 => ("ShornSinsModel", "wools", "[I", true)
  | 4 => ("ShornSinsModel", "homes", "[I", true)
  | 5 => ("ShornSinsModel", "firsts", "[I", true)
  | 6 => ("ShornSinsModel", "deeds", "I", false)
  | 7 => ("ShornSinsModel", "deedMonth", "[I", true)
  | 8 => ("ShornSinsModel", "deedWho", "[I", true)
  | 9 => ("ShornSinsModel", "deedWhat", "[I", true)
  | 10 => ("ShornSinsModel", "graceTold", "I", false)
  | 11 => ("ShornSinsModel", "coldTold", "I", false)
  | 12 => ("ShornSinsModel", "rounds", "I", false)
  | 13 => ("ShornSinsModel", "roundMonth", "[I", true)
  | 14 => ("ShornSinsModel", "roundCounty", "[I", true)
  | 15 => ("ShornSinsModel", "roundPace", "[I", true)
  | 16 => ("ShornSinsModel", "journeys", "I", false)
  | 17 => ("ShornSinsModel", "journeyMonth", "[I", true)
  | 18 => ("ShornSinsModel", "journeyWho", "[I", true)
  | 19 => ("ShornSinsModel", "journeyCounty", "[I", true)
  | 20 => ("ShornSinsModel", "frosts", "I", false)
  | 21 => ("ShornSinsModel", "frostMonth", "[I", true)
  | 22 => ("ShornSinsModel", "notDeeds", "I", false)
  | 23 => ("ShornSinsModel", "notRounds", "I", false)
  | 24 => ("ShornSinsModel", "frostBits", "I", false)
  | 25 => ("ShornSinsModel", "has", "[I", true)
  | 26 => ("ShornSinsModel", "place", "[I", true)
  | 27 => ("ShornSinsModel", "often", "[I", true)
  | 28 => ("ShornSinsModel", "shornOf", "[I", true)
  | 29 => ("ShornSinsModel", "diesAt", "[I", true)
  | 30 => ("ShornSinsModel", "did", "I", false)
  | 31 => ("ShornSinsModel", "thornNow", "I", false)
  | 32 => ("ShornSinsModel", "firstMonth", "I", false)
  | 33 => ("ShornSinsModel", "firstWho", "I", false)
  | 34 => ("ShornSinsModel", "cloths", "[I", true)
  | 35 => ("ShornSinsModel", "worths", "[I", true)
  | 36 => ("ShornSinsModel", "hasAt", "[I", true)
  | 37 => ("ShornSinsModel", "placeAt", "[I", true)
  | 38 => ("ShornSinsModel", "oftenAt", "[I", true)
  | 39 => ("ShornSinsModel", "thornAt", "[I", true)
  | 40 => ("ShornSinsModel", "heavyAt", "[I", true)
  | 41 => ("ShornSinsModel", "clothAt", "[I", true)
  | 42 => ("ShornSinsModel", "worthAt", "[I", true)
  | 43 => ("ShornSinsModel", "taxes", "[I", true)
  | 44 => ("ShornSinsModel", "planRow", "[I", true)
  | 45 => ("ShornSinsModel", "seens", "I", false)
  | 46 => ("ShornSinsModel", "seenMonth", "[I", true)
  | 47 => ("ShornSinsModel", "seenWho", "[I", true)
  | 48 => ("ShornSinsModel", "seenMuch", "[I", true)
  | 49 => ("ShornSinsModel", "hasWithout", "[I", true)
  | 50 => ("ShornSinsModel", "isThere", "[Z", true)
  | 51 => ("ShornSinsModel", "forms", "[I", true)
  | 52 => ("ShornSinsModel", "sizes", "[I", true)
  | 53 => ("ShornSinsModel", "items", "[I", true)
  | 54 => ("ShornSinsModel", "moved", "[I", true)
  | _ => ("ShornSinsModel", "finding", "I", false)
def tyX11 : Nat → FieldType := fun k => match k with
  | 0 => .array .int
  | 1 => .array .int
  | 2 => .int
  | 3 => .array .int
  | 4 => .array .int
  | 5 => .array .int
  | 6 => .int
  | 7 => .array .int
  | 8 => .array .int
  | 9 => .array .int
  | 10 => .int
  | 11 => .int
  | 12 => .int
  | 13 => .array .int
  | 14 => .array .int
  | 15 => .array .int
  | 16 => .int
  | 17 => .array .int
  | 18 => .array .int
  | 19 => .array .int
  | 20 => .int
  | 21 => .array .int
  | 22 => .int
  | 23 => .int
  | 24 => .int
  | 25 => .array .int
  | 26 => .array .int
  | 27 => .array .int
  | 28 => .array .int
  | 29 => .array .int
  | 30 => .int
  | 31 => .int
  | 32 => .int
  | 33 => .int
  | 34 => .array .int
  | 35 => .array .int
  | 36 => .array .int
  | 37 => .array .int
  | 38 => .array .int
  | 39 => .array .int
  | 40 => .array .int
  | 41 => .array .int
  | 42 => .array .int
  | 43 => .array .int
  | 44 => .array .int
  | 45 => .int
  | 46 => .array .int
  | 47 => .array .int
  | 48 => .array .int
  | 49 => .array .int
  | 50 => .array .boolean
  | 51 => .array .int
  | 52 => .array .int
  | 53 => .array .int
  | 54 => .array .int
  | _ => .int
abbrev wsX110 : List Cond := u_ws RX11 TX11 56
theorem nmX11 : ∀ a, a < 56 → ∀ b, b < 56 → a ≠ b → (TX11 a).2.1 ≠ (TX11 b).2.1 := by decide +kernel
theorem tyX11_ok : ∀ k, k < 56 → parseFieldDescriptor (TX11 k).2.2.1 = some (tyX11 k) := by decide +kernel
theorem inX11 : ∀ w ∈ wsX110, w ∈ zTB := zin [1134, 1136, 1138, 1140, 1142, 1144, 1146, 1148, 1150, 1152, 1154, 1156, 1158, 1160, 1162, 1164, 1166, 1168, 1170, 1172, 1174, 1176, 1178, 1180, 1182, 1184, 1186, 1188, 1190, 1192, 1194, 1196, 1198, 1200, 1202, 1204, 1206, 1208, 1210, 1212, 1214, 1216, 1218, 1220, 1222, 1224, 1226, 1228, 1230, 1232, 1234, 1236, 1238, 1240, 1242, 1244] (by decide +kernel) (by decide +kernel)
abbrev vwCl : List vw_C := [(RX0, TX0, 6), (RX1, TX1, 2), (RX2, TX2, 6), (RX3, TX3, 3), (RX4, TX4, 11), (RX5, TX5, 4), (RX6, TX6, 4), (RX7, TX7, 5), (RX8, TX8, 7), (RX9, TX9, 5), (RX10, TX10, 10), (RX11, TX11, 56)]
def RJ0 : String := "java/lang/String"
def RJ1 : String := "java/lang/StringLatin1"
def RJ6 : String := "java/lang/Integer"
def RJ7 : String := "java/util/Arrays"
abbrev cX0_init : ByteArray := prog_2_method_1_code
def yX0_init : MethodName := ⟨RX0, "<init>", "(LShornSins$Other;)V"⟩
abbrev cX0_unsettle : ByteArray := prog_2_method_2_code
def yX0_unsettle : MethodName := ⟨RX0, "unsettle", "()V"⟩
abbrev cX0_above : ByteArray := prog_2_method_3_code
def yX0_above : MethodName := ⟨RX0, "above", "(I)J"⟩
abbrev cX0_below : ByteArray := prog_2_method_4_code
def yX0_below : MethodName := ⟨RX0, "below", "(I)J"⟩
abbrev cX0_findLiving : ByteArray := prog_2_method_5_code
def yX0_findLiving : MethodName := ⟨RX0, "findLiving", "(II)V"⟩
abbrev cX0_supposeFrosts : ByteArray := prog_2_method_6_code
def yX0_supposeFrosts : MethodName := ⟨RX0, "supposeFrosts", "(II)V"⟩
abbrev cX0_addToLiving : ByteArray := prog_2_method_7_code
def yX0_addToLiving : MethodName := ⟨RX0, "addToLiving", "(J)V"⟩
abbrev cX0_reduce : ByteArray := prog_2_method_8_code
def yX0_reduce : MethodName := ⟨RX0, "reduce", "(I)V"⟩
abbrev cX0_power : ByteArray := prog_2_method_9_code
def yX0_power : MethodName := ⟨RX0, "power", "(II)J"⟩
abbrev cX0_runYears : ByteArray := prog_2_method_10_code
def yX0_runYears : MethodName := ⟨RX0, "runYears", "(II)V"⟩
abbrev cX0_lot : ByteArray := prog_2_method_11_code
def yX0_lot : MethodName := ⟨RX0, "lot", "(I)I"⟩
abbrev cX1_init : ByteArray := prog_3_method_1_code
def yX1_init : MethodName := ⟨RX1, "<init>", "()V"⟩
abbrev cX1_begin : ByteArray := prog_3_method_2_code
def yX1_begin : MethodName := ⟨RX1, "begin", "()V"⟩
abbrev cX1_goOn : ByteArray := prog_3_method_3_code
def yX1_goOn : MethodName := ⟨RX1, "goOn", "(I)Z"⟩
abbrev cX1_takeOutOf : ByteArray := prog_3_method_4_code
def yX1_takeOutOf : MethodName := ⟨RX1, "takeOutOf", "(LShornSins$Rows;)V"⟩
abbrev cX1_tell : ByteArray := prog_3_method_5_code
def yX1_tell : MethodName := ⟨RX1, "tell", "(I)I"⟩
abbrev cX2_init : ByteArray := prog_4_method_1_code
def yX2_init : MethodName := ⟨RX2, "<init>", "(LShornSins$Told;)V"⟩
abbrev cX2_run : ByteArray := prog_4_method_2_code
def yX2_run : MethodName := ⟨RX2, "run", "(I)V"⟩
abbrev cX2_begin : ByteArray := prog_4_method_3_code
def yX2_begin : MethodName := ⟨RX2, "begin", "()V"⟩
abbrev cX2_monthsOf : ByteArray := prog_4_method_4_code
def yX2_monthsOf : MethodName := ⟨RX2, "monthsOf", "(LShornSins$Rows;)I"⟩
abbrev cX2_doDeeds : ByteArray := prog_4_method_5_code
def yX2_doDeeds : MethodName := ⟨RX2, "doDeeds", "(I)I"⟩
abbrev cX2_growth : ByteArray := prog_4_method_6_code
def yX2_growth : MethodName := ⟨RX2, "growth", "(II)I"⟩
abbrev cX2_moult : ByteArray := prog_4_method_7_code
def yX2_moult : MethodName := ⟨RX2, "moult", "(I)V"⟩
abbrev cX2_travel : ByteArray := prog_4_method_8_code
def yX2_travel : MethodName := ⟨RX2, "travel", "(I)V"⟩
abbrev cX2_makeRounds : ByteArray := prog_4_method_9_code
def yX2_makeRounds : MethodName := ⟨RX2, "makeRounds", "(IZ)V"⟩
abbrev cX2_woolliestIn : ByteArray := prog_4_method_10_code
def yX2_woolliestIn : MethodName := ⟨RX2, "woolliestIn", "(I)I"⟩
abbrev cX2_shear : ByteArray := prog_4_method_11_code
def yX2_shear : MethodName := ⟨RX2, "shear", "(IIZ)V"⟩
abbrev cX2_lives : ByteArray := prog_4_method_12_code
def yX2_lives : MethodName := ⟨RX2, "lives", "(I)Z"⟩
abbrev cX2_livesBehind : ByteArray := prog_4_method_13_code
def yX2_livesBehind : MethodName := ⟨RX2, "livesBehind", "(II)Z"⟩
abbrev cX2_behind : ByteArray := prog_4_method_14_code
def yX2_behind : MethodName := ⟨RX2, "behind", "(II)I"⟩
abbrev cX2_deathOf : ByteArray := prog_4_method_15_code
def yX2_deathOf : MethodName := ⟨RX2, "deathOf", "(I)I"⟩
abbrev cX2_living : ByteArray := prog_4_method_16_code
def yX2_living : MethodName := ⟨RX2, "living", "()I"⟩
abbrev cX2_taxBehind : ByteArray := prog_4_method_17_code
def yX2_taxBehind : MethodName := ⟨RX2, "taxBehind", "(I)I"⟩
abbrev cX2_heaviestBehind : ByteArray := prog_4_method_18_code
def yX2_heaviestBehind : MethodName := ⟨RX2, "heaviestBehind", "(I)I"⟩
abbrev cX2_worthInAll : ByteArray := prog_4_method_19_code
def yX2_worthInAll : MethodName := ⟨RX2, "worthInAll", "()I"⟩
abbrev cX3_init : ByteArray := prog_5_method_1_code
def yX3_init : MethodName := ⟨RX3, "<init>", "(LShornSins$Told;)V"⟩
abbrev cX3_afresh : ByteArray := prog_5_method_2_code
def yX3_afresh : MethodName := ⟨RX3, "afresh", "()V"⟩
abbrev cX4_init : ByteArray := prog_6_method_1_code
def yX4_init : MethodName := ⟨RX4, "<init>", "(LShornSins$Other;)V"⟩
abbrev cX4_unsettle : ByteArray := prog_6_method_2_code
def yX4_unsettle : MethodName := ⟨RX4, "unsettle", "()V"⟩
abbrev cX4_findRound : ByteArray := prog_6_method_3_code
def yX4_findRound : MethodName := ⟨RX4, "findRound", "(I)V"⟩
abbrev cX4_fewestDeeds : ByteArray := prog_6_method_4_code
def yX4_fewestDeeds : MethodName := ⟨RX4, "fewestDeeds", "(III)I"⟩
abbrev cX4_measure : ByteArray := prog_6_method_5_code
def yX4_measure : MethodName := ⟨RX4, "measure", "(I)V"⟩
abbrev cX4_fewestRounds : ByteArray := prog_6_method_6_code
def yX4_fewestRounds : MethodName := ⟨RX4, "fewestRounds", "(I)I"⟩
abbrev cX4_findHome : ByteArray := prog_6_method_7_code
def yX4_findHome : MethodName := ⟨RX4, "findHome", "(I)V"⟩
abbrev cX5_init : ByteArray := prog_7_method_1_code
def yX5_init : MethodName := ⟨RX5, "<init>", "(I)V"⟩
abbrev cX5_append : ByteArray := prog_7_method_2_code
def yX5_append : MethodName := ⟨RX5, "append", "(III)I"⟩
abbrev cX5_cell : ByteArray := prog_7_method_3_code
def yX5_cell : MethodName := ⟨RX5, "cell", "(II)I"⟩
abbrev cX5_setCell : ByteArray := prog_7_method_4_code
def yX5_setCell : MethodName := ⟨RX5, "setCell", "(III)V"⟩
abbrev cX5_takeOut : ByteArray := prog_7_method_5_code
def yX5_takeOut : MethodName := ⟨RX5, "takeOut", "(I)V"⟩
abbrev cX5_become : ByteArray := prog_7_method_6_code
def yX5_become : MethodName := ⟨RX5, "become", "(LShornSins$Rows;)V"⟩
abbrev cX6_init : ByteArray := prog_8_method_1_code
def yX6_init : MethodName := ⟨RX6, "<init>", "()V"⟩
abbrev cX6_finding : ByteArray := prog_8_method_2_code
def yX6_finding : MethodName := ⟨RX6, "finding", "(I)I"⟩
abbrev cX6_isLost : ByteArray := prog_8_method_3_code
def yX6_isLost : MethodName := ⟨RX6, "isLost", "(I)Z"⟩
abbrev cX6_length : ByteArray := prog_8_method_4_code
def yX6_length : MethodName := ⟨RX6, "length", "(I)I"⟩
abbrev cX6_renew : ByteArray := prog_8_method_5_code
def yX6_renew : MethodName := ⟨RX6, "renew", "(III)I"⟩
abbrev cX6_drop : ByteArray := prog_8_method_6_code
def yX6_drop : MethodName := ⟨RX6, "drop", "(I)I"⟩
abbrev cX6_holds : ByteArray := prog_8_method_7_code
def yX6_holds : MethodName := ⟨RX6, "holds", "(III)Z"⟩
abbrev cX6_alike : ByteArray := prog_8_method_8_code
def yX6_alike : MethodName := ⟨RX6, "alike", "(II)Z"⟩
abbrev cX6_faultAt : ByteArray := prog_8_method_9_code
def yX6_faultAt : MethodName := ⟨RX6, "faultAt", "(III)I"⟩
abbrev cX6_item : ByteArray := prog_8_method_10_code
def yX6_item : MethodName := ⟨RX6, "item", "(II)I"⟩
abbrev cX6_store : ByteArray := prog_8_method_11_code
def yX6_store : MethodName := ⟨RX6, "store", "(III)V"⟩
abbrev cX6_move : ByteArray := prog_8_method_12_code
def yX6_move : MethodName := ⟨RX6, "move", "(IIIII)V"⟩
abbrev cX7_init : ByteArray := prog_9_method_1_code
def yX7_init : MethodName := ⟨RX7, "<init>", "(ILjava/lang/String;Ljava/lang/String;Ljava/lang/String;)V"⟩
abbrev cX7_append : ByteArray := prog_9_method_2_code
def yX7_append : MethodName := ⟨RX7, "append", "(I)I"⟩
abbrev cX7_faultPlace : ByteArray := prog_9_method_3_code
def yX7_faultPlace : MethodName := ⟨RX7, "faultPlace", "()I"⟩
abbrev cX7_readInto : ByteArray := prog_9_method_4_code
def yX7_readInto : MethodName := ⟨RX7, "readInto", "(LShornSins$Rows;)V"⟩
abbrev cX7_meaningAt : ByteArray := prog_9_method_5_code
def yX7_meaningAt : MethodName := ⟨RX7, "meaningAt", "(I)I"⟩
abbrev cX7_signsAt : ByteArray := prog_9_method_6_code
def yX7_signsAt : MethodName := ⟨RX7, "signsAt", "(I)Ljava/lang/String;"⟩
abbrev cX8_init : ByteArray := prog_10_method_1_code
def yX8_init : MethodName := ⟨RX8, "<init>", "()V"⟩
abbrev cX8_become : ByteArray := prog_10_method_2_code
def yX8_become : MethodName := ⟨RX8, "become", "(LShornSins$Told;)V"⟩
abbrev cX9_init : ByteArray := prog_11_method_1_code
def yX9_init : MethodName := ⟨RX9, "<init>", "(LShornSins$Other;)V"⟩
abbrev cX9_unsettle : ByteArray := prog_11_method_2_code
def yX9_unsettle : MethodName := ⟨RX9, "unsettle", "()V"⟩
abbrev cX9_survey : ByteArray := prog_11_method_3_code
def yX9_survey : MethodName := ⟨RX9, "survey", "()V"⟩
abbrev cX9_keepWools : ByteArray := prog_11_method_4_code
def yX9_keepWools : MethodName := ⟨RX9, "keepWools", "(I)V"⟩
abbrev cX9_placeOf : ByteArray := prog_11_method_5_code
def yX9_placeOf : MethodName := ⟨RX9, "placeOf", "(III)I"⟩
abbrev cX9_fitting : ByteArray := prog_11_method_6_code
def yX9_fitting : MethodName := ⟨RX9, "fitting", "(III)I"⟩
abbrev cX9_lastSeen : ByteArray := prog_11_method_7_code
def yX9_lastSeen : MethodName := ⟨RX9, "lastSeen", "()I"⟩
abbrev cX9_comesOut : ByteArray := prog_11_method_8_code
def yX9_comesOut : MethodName := ⟨RX9, "comesOut", "()Z"⟩
abbrev cX9_monthToAsk : ByteArray := prog_11_method_9_code
def yX9_monthToAsk : MethodName := ⟨RX9, "monthToAsk", "(I)I"⟩
abbrev cX9_mostAlike : ByteArray := prog_11_method_10_code
def yX9_mostAlike : MethodName := ⟨RX9, "mostAlike", "(II)I"⟩
abbrev cX9_manyLike : ByteArray := prog_11_method_11_code
def yX9_manyLike : MethodName := ⟨RX9, "manyLike", "(III)I"⟩
abbrev cX10_init : ByteArray := prog_1_method_1_code
def yX10_init : MethodName := ⟨RX10, "<init>", "()V"⟩
abbrev cX10_type : ByteArray := prog_1_method_2_code
def yX10_type : MethodName := ⟨RX10, "type", "(II)I"⟩
abbrev cX10_wipe : ByteArray := prog_1_method_3_code
def yX10_wipe : MethodName := ⟨RX10, "wipe", "(I)I"⟩
abbrev cX10_undo : ByteArray := prog_1_method_4_code
def yX10_undo : MethodName := ⟨RX10, "undo", "(I)I"⟩
abbrev cX10_fault : ByteArray := prog_1_method_5_code
def yX10_fault : MethodName := ⟨RX10, "fault", "(I)I"⟩
abbrev cX10_person : ByteArray := prog_1_method_6_code
def yX10_person : MethodName := ⟨RX10, "person", "(II)I"⟩
abbrev cX10_deed : ByteArray := prog_1_method_7_code
def yX10_deed : MethodName := ⟨RX10, "deed", "(II)I"⟩
abbrev cX10_set : ByteArray := prog_1_method_8_code
def yX10_set : MethodName := ⟨RX10, "set", "(II)I"⟩
abbrev cX10_round : ByteArray := prog_1_method_9_code
def yX10_round : MethodName := ⟨RX10, "round", "(III)I"⟩
abbrev cX10_journey : ByteArray := prog_1_method_10_code
def yX10_journey : MethodName := ⟨RX10, "journey", "(III)I"⟩
abbrev cX10_frost : ByteArray := prog_1_method_11_code
def yX10_frost : MethodName := ⟨RX10, "frost", "(I)I"⟩
abbrev cX10_back : ByteArray := prog_1_method_12_code
def yX10_back : MethodName := ⟨RX10, "back", "(I)I"⟩
abbrev cX10_read : ByteArray := prog_1_method_13_code
def yX10_read : MethodName := ⟨RX10, "read", "(I)I"⟩
abbrev cX10_wool : ByteArray := prog_1_method_14_code
def yX10_wool : MethodName := ⟨RX10, "wool", "(III)I"⟩
abbrev cX10_dies : ByteArray := prog_1_method_15_code
def yX10_dies : MethodName := ⟨RX10, "dies", "(I)I"⟩
abbrev cX10_cloth : ByteArray := prog_1_method_16_code
def yX10_cloth : MethodName := ⟨RX10, "cloth", "(III)I"⟩
abbrev cX10_thorn : ByteArray := prog_1_method_17_code
def yX10_thorn : MethodName := ⟨RX10, "thorn", "(I)I"⟩
abbrev cX10_tax : ByteArray := prog_1_method_18_code
def yX10_tax : MethodName := ⟨RX10, "tax", "(I)I"⟩
abbrev cX10_heaviest : ByteArray := prog_1_method_19_code
def yX10_heaviest : MethodName := ⟨RX10, "heaviest", "(I)I"⟩
abbrev cX10_first : ByteArray := prog_1_method_20_code
def yX10_first : MethodName := ⟨RX10, "first", "(I)I"⟩
abbrev cX10_plan : ByteArray := prog_1_method_21_code
def yX10_plan : MethodName := ⟨RX10, "plan", "(II)I"⟩
abbrev cX10_light : ByteArray := prog_1_method_22_code
def yX10_light : MethodName := ⟨RX10, "light", "(III)I"⟩
abbrev cX10_spare : ByteArray := prog_1_method_23_code
def yX10_spare : MethodName := ⟨RX10, "spare", "(I)I"⟩
abbrev cX10_home : ByteArray := prog_1_method_24_code
def yX10_home : MethodName := ⟨RX10, "home", "(II)I"⟩
abbrev cX10_seen : ByteArray := prog_1_method_25_code
def yX10_seen : MethodName := ⟨RX10, "seen", "(III)I"⟩
abbrev cX10_forget : ByteArray := prog_1_method_26_code
def yX10_forget : MethodName := ⟨RX10, "forget", "()I"⟩
abbrev cX10_never : ByteArray := prog_1_method_27_code
def yX10_never : MethodName := ⟨RX10, "never", "()I"⟩
abbrev cX10_was : ByteArray := prog_1_method_28_code
def yX10_was : MethodName := ⟨RX10, "was", "(II)I"⟩
abbrev cX10_ask : ByteArray := prog_1_method_29_code
def yX10_ask : MethodName := ⟨RX10, "ask", "(I)I"⟩
abbrev cX10_virtue : ByteArray := prog_1_method_30_code
def yX10_virtue : MethodName := ⟨RX10, "virtue", "(IIII)J"⟩
abbrev cX10_years : ByteArray := prog_1_method_31_code
def yX10_years : MethodName := ⟨RX10, "years", "(III)I"⟩
abbrev cX10_sheet : ByteArray := prog_1_method_32_code
def yX10_sheet : MethodName := ⟨RX10, "sheet", "(III)I"⟩
abbrev cX10_lose : ByteArray := prog_1_method_33_code
def yX10_lose : MethodName := ⟨RX10, "lose", "(I)I"⟩
abbrev cX10_put : ByteArray := prog_1_method_34_code
def yX10_put : MethodName := ⟨RX10, "put", "(IIII)I"⟩
abbrev cX10_get : ByteArray := prog_1_method_35_code
def yX10_get : MethodName := ⟨RX10, "get", "(III)I"⟩
abbrev cX10_copy : ByteArray := prog_1_method_36_code
def yX10_copy : MethodName := ⟨RX10, "copy", "(IIIII)I"⟩
abbrev cX10_write : ByteArray := prog_1_method_37_code
def yX10_write : MethodName := ⟨RX10, "write", "(II)I"⟩
abbrev cX10_count : ByteArray := prog_1_method_38_code
def yX10_count : MethodName := ⟨RX10, "count", "(I)I"⟩
abbrev cX10_digest : ByteArray := prog_1_method_39_code
def yX10_digest : MethodName := ⟨RX10, "digest", "()J"⟩
abbrev cX10_digestPerson : ByteArray := prog_1_method_40_code
def yX10_digestPerson : MethodName := ⟨RX10, "digestPerson", "(JI)J"⟩
abbrev cX10_within : ByteArray := prog_1_method_41_code
def yX10_within : MethodName := ⟨RX10, "within", "(III)Z"⟩
abbrev cX10_isMonth : ByteArray := prog_1_method_42_code
def yX10_isMonth : MethodName := ⟨RX10, "isMonth", "(I)Z"⟩
abbrev cX10_isCounty : ByteArray := prog_1_method_43_code
def yX10_isCounty : MethodName := ⟨RX10, "isCounty", "(I)Z"⟩
abbrev cX10_isSheet : ByteArray := prog_1_method_44_code
def yX10_isSheet : MethodName := ⟨RX10, "isSheet", "(I)Z"⟩
abbrev cX10_isPerson : ByteArray := prog_1_method_45_code
def yX10_isPerson : MethodName := ⟨RX10, "isPerson", "(I)Z"⟩
abbrev cX10_isDeed : ByteArray := prog_1_method_46_code
def yX10_isDeed : MethodName := ⟨RX10, "isDeed", "(I)Z"⟩
abbrev cX10_textOf : ByteArray := prog_1_method_47_code
def yX10_textOf : MethodName := ⟨RX10, "textOf", "(I)LShornSins$Text;"⟩
abbrev cX10_readTexts : ByteArray := prog_1_method_48_code
def yX10_readTexts : MethodName := ⟨RX10, "readTexts", "()V"⟩
abbrev cX10_unsettle : ByteArray := prog_1_method_49_code
def yX10_unsettle : MethodName := ⟨RX10, "unsettle", "()V"⟩
abbrev cX10_settle : ByteArray := prog_1_method_50_code
def yX10_settle : MethodName := ⟨RX10, "settle", "()V"⟩
abbrev cX11_init : ByteArray := prog_13_method_1_code
def yX11_init : MethodName := ⟨RX11, "<init>", "()V"⟩
abbrev cX11_in : ByteArray := prog_13_method_3_code
def yX11_in : MethodName := ⟨RX11, "in", "(III)Z"⟩
abbrev cX11_isIn : ByteArray := prog_13_method_4_code
def yX11_isIn : MethodName := ⟨RX11, "isIn", "(II)Z"⟩
abbrev cX11_no : ByteArray := prog_13_method_5_code
def yX11_no : MethodName := ⟨RX11, "no", "(I)J"⟩
abbrev cX11_lowest : ByteArray := prog_13_method_6_code
def yX11_lowest : MethodName := ⟨RX11, "lowest", "(JJI)J"⟩
abbrev cX11_isText : ByteArray := prog_13_method_7_code
def yX11_isText : MethodName := ⟨RX11, "isText", "(I)Z"⟩
abbrev cX11_isMonth : ByteArray := prog_13_method_8_code
def yX11_isMonth : MethodName := ⟨RX11, "isMonth", "(I)Z"⟩
abbrev cX11_isCounty : ByteArray := prog_13_method_9_code
def yX11_isCounty : MethodName := ⟨RX11, "isCounty", "(I)Z"⟩
abbrev cX11_type : ByteArray := prog_13_method_10_code
def yX11_type : MethodName := ⟨RX11, "type", "(II)I"⟩
abbrev cX11_wipe : ByteArray := prog_13_method_11_code
def yX11_wipe : MethodName := ⟨RX11, "wipe", "(I)I"⟩
abbrev cX11_undo : ByteArray := prog_13_method_12_code
def yX11_undo : MethodName := ⟨RX11, "undo", "(I)I"⟩
abbrev cX11_byteAt : ByteArray := prog_13_method_13_code
def yX11_byteAt : MethodName := ⟨RX11, "byteAt", "(II)I"⟩
abbrev cX11_readsPerson : ByteArray := prog_13_method_14_code
def yX11_readsPerson : MethodName := ⟨RX11, "readsPerson", "(II)I"⟩
abbrev cX11_readsDeed : ByteArray := prog_13_method_15_code
def yX11_readsDeed : MethodName := ⟨RX11, "readsDeed", "(II)I"⟩
abbrev cX11_readsParts : ByteArray := prog_13_method_16_code
def yX11_readsParts : MethodName := ⟨RX11, "readsParts", "(I)I"⟩
abbrev cX11_faultOf : ByteArray := prog_13_method_17_code
def yX11_faultOf : MethodName := ⟨RX11, "faultOf", "(I)I"⟩
abbrev cX11_reads : ByteArray := prog_13_method_18_code
def yX11_reads : MethodName := ⟨RX11, "reads", "()V"⟩
abbrev cX11_fault : ByteArray := prog_13_method_19_code
def yX11_fault : MethodName := ⟨RX11, "fault", "(I)I"⟩
abbrev cX11_isPerson : ByteArray := prog_13_method_20_code
def yX11_isPerson : MethodName := ⟨RX11, "isPerson", "(I)Z"⟩
abbrev cX11_isDeed : ByteArray := prog_13_method_21_code
def yX11_isDeed : MethodName := ⟨RX11, "isDeed", "(I)Z"⟩
abbrev cX11_personOf : ByteArray := prog_13_method_22_code
def yX11_personOf : MethodName := ⟨RX11, "personOf", "(II)I"⟩
abbrev cX11_person : ByteArray := prog_13_method_23_code
def yX11_person : MethodName := ⟨RX11, "person", "(II)I"⟩
abbrev cX11_deedOf : ByteArray := prog_13_method_24_code
def yX11_deedOf : MethodName := ⟨RX11, "deedOf", "(II)I"⟩
abbrev cX11_deed : ByteArray := prog_13_method_25_code
def yX11_deed : MethodName := ⟨RX11, "deed", "(II)I"⟩
abbrev cX11_set : ByteArray := prog_13_method_26_code
def yX11_set : MethodName := ⟨RX11, "set", "(II)I"⟩
abbrev cX11_round : ByteArray := prog_13_method_27_code
def yX11_round : MethodName := ⟨RX11, "round", "(III)I"⟩
abbrev cX11_journey : ByteArray := prog_13_method_28_code
def yX11_journey : MethodName := ⟨RX11, "journey", "(III)I"⟩
abbrev cX11_frost : ByteArray := prog_13_method_29_code
def yX11_frost : MethodName := ⟨RX11, "frost", "(I)I"⟩
abbrev cX11_back : ByteArray := prog_13_method_30_code
def yX11_back : MethodName := ⟨RX11, "back", "(I)I"⟩
abbrev cX11_read : ByteArray := prog_13_method_31_code
def yX11_read : MethodName := ⟨RX11, "read", "(I)I"⟩
abbrev cX11_asTold : ByteArray := prog_13_method_32_code
def yX11_asTold : MethodName := ⟨RX11, "asTold", "()V"⟩
abbrev cX11_lives : ByteArray := prog_13_method_33_code
def yX11_lives : MethodName := ⟨RX11, "lives", "(I)Z"⟩
abbrev cX11_weightOf : ByteArray := prog_13_method_34_code
def yX11_weightOf : MethodName := ⟨RX11, "weightOf", "(I)I"⟩
abbrev cX11_grows : ByteArray := prog_13_method_35_code
def yX11_grows : MethodName := ⟨RX11, "grows", "(I)V"⟩
abbrev cX11_goes : ByteArray := prog_13_method_36_code
def yX11_goes : MethodName := ⟨RX11, "goes", "(I)V"⟩
abbrev cX11_nextIn : ByteArray := prog_13_method_37_code
def yX11_nextIn : MethodName := ⟨RX11, "nextIn", "(I)I"⟩
abbrev cX11_shears : ByteArray := prog_13_method_38_code
def yX11_shears : MethodName := ⟨RX11, "shears", "(II)V"⟩
abbrev cX11_shearsAll : ByteArray := prog_13_method_39_code
def yX11_shearsAll : MethodName := ⟨RX11, "shearsAll", "(I)V"⟩
abbrev cX11_heaviestNow : ByteArray := prog_13_method_40_code
def yX11_heaviestNow : MethodName := ⟨RX11, "heaviestNow", "()I"⟩
abbrev cX11_keeps : ByteArray := prog_13_method_41_code
def yX11_keeps : MethodName := ⟨RX11, "keeps", "(I)V"⟩
abbrev cX11_runs : ByteArray := prog_13_method_42_code
def yX11_runs : MethodName := ⟨RX11, "runs", "()V"⟩
abbrev cX11_runsTold : ByteArray := prog_13_method_43_code
def yX11_runsTold : MethodName := ⟨RX11, "runsTold", "()V"⟩
abbrev cX11_woolOf : ByteArray := prog_13_method_44_code
def yX11_woolOf : MethodName := ⟨RX11, "woolOf", "(III)I"⟩
abbrev cX11_wool : ByteArray := prog_13_method_45_code
def yX11_wool : MethodName := ⟨RX11, "wool", "(III)I"⟩
abbrev cX11_diesOf : ByteArray := prog_13_method_46_code
def yX11_diesOf : MethodName := ⟨RX11, "diesOf", "(I)I"⟩
abbrev cX11_dies : ByteArray := prog_13_method_47_code
def yX11_dies : MethodName := ⟨RX11, "dies", "(I)I"⟩
abbrev cX11_clothOf : ByteArray := prog_13_method_48_code
def yX11_clothOf : MethodName := ⟨RX11, "clothOf", "(III)I"⟩
abbrev cX11_cloth : ByteArray := prog_13_method_49_code
def yX11_cloth : MethodName := ⟨RX11, "cloth", "(III)I"⟩
abbrev cX11_thornOf : ByteArray := prog_13_method_50_code
def yX11_thornOf : MethodName := ⟨RX11, "thornOf", "(I)I"⟩
abbrev cX11_thorn : ByteArray := prog_13_method_51_code
def yX11_thorn : MethodName := ⟨RX11, "thorn", "(I)I"⟩
abbrev cX11_taxOf : ByteArray := prog_13_method_52_code
def yX11_taxOf : MethodName := ⟨RX11, "taxOf", "(I)I"⟩
abbrev cX11_tax : ByteArray := prog_13_method_53_code
def yX11_tax : MethodName := ⟨RX11, "tax", "(I)I"⟩
abbrev cX11_heaviestOf : ByteArray := prog_13_method_54_code
def yX11_heaviestOf : MethodName := ⟨RX11, "heaviestOf", "(I)I"⟩
abbrev cX11_heaviest : ByteArray := prog_13_method_55_code
def yX11_heaviest : MethodName := ⟨RX11, "heaviest", "(I)I"⟩
abbrev cX11_firstOf : ByteArray := prog_13_method_56_code
def yX11_firstOf : MethodName := ⟨RX11, "firstOf", "(I)I"⟩
abbrev cX11_first : ByteArray := prog_13_method_57_code
def yX11_first : MethodName := ⟨RX11, "first", "(I)I"⟩
abbrev cX11_worthAll : ByteArray := prog_13_method_58_code
def yX11_worthAll : MethodName := ⟨RX11, "worthAll", "()I"⟩
abbrev cX11_planOf : ByteArray := prog_13_method_59_code
def yX11_planOf : MethodName := ⟨RX11, "planOf", "(II)I"⟩
abbrev cX11_plan : ByteArray := prog_13_method_60_code
def yX11_plan : MethodName := ⟨RX11, "plan", "(II)I"⟩
abbrev cX11_ofRow : ByteArray := prog_13_method_61_code
def yX11_ofRow : MethodName := ⟨RX11, "ofRow", "(II)I"⟩
abbrev cX11_isLight : ByteArray := prog_13_method_62_code
def yX11_isLight : MethodName := ⟨RX11, "isLight", "(III)Z"⟩
abbrev cX11_lightBy : ByteArray := prog_13_method_63_code
def yX11_lightBy : MethodName := ⟨RX11, "lightBy", "(II)I"⟩
abbrev cX11_light : ByteArray := prog_13_method_64_code
def yX11_light : MethodName := ⟨RX11, "light", "(III)I"⟩
abbrev cX11_livesMany : ByteArray := prog_13_method_65_code
def yX11_livesMany : MethodName := ⟨RX11, "livesMany", "()I"⟩
abbrev cX11_isSpared : ByteArray := prog_13_method_66_code
def yX11_isSpared : MethodName := ⟨RX11, "isSpared", "(I)Z"⟩
abbrev cX11_spareBy : ByteArray := prog_13_method_67_code
def yX11_spareBy : MethodName := ⟨RX11, "spareBy", "()I"⟩
abbrev cX11_spare : ByteArray := prog_13_method_68_code
def yX11_spare : MethodName := ⟨RX11, "spare", "(I)I"⟩
abbrev cX11_homeOf : ByteArray := prog_13_method_69_code
def yX11_homeOf : MethodName := ⟨RX11, "homeOf", "(II)I"⟩
abbrev cX11_home : ByteArray := prog_13_method_70_code
def yX11_home : MethodName := ⟨RX11, "home", "(II)I"⟩
abbrev cX11_seen : ByteArray := prog_13_method_71_code
def yX11_seen : MethodName := ⟨RX11, "seen", "(III)I"⟩
abbrev cX11_forget : ByteArray := prog_13_method_72_code
def yX11_forget : MethodName := ⟨RX11, "forget", "()I"⟩
abbrev cX11_isSeen : ByteArray := prog_13_method_73_code
def yX11_isSeen : MethodName := ⟨RX11, "isSeen", "()Z"⟩
abbrev cX11_neverNow : ByteArray := prog_13_method_74_code
def yX11_neverNow : MethodName := ⟨RX11, "neverNow", "()I"⟩
abbrev cX11_never : ByteArray := prog_13_method_75_code
def yX11_never : MethodName := ⟨RX11, "never", "()I"⟩
abbrev cX11_wasOf : ByteArray := prog_13_method_76_code
def yX11_wasOf : MethodName := ⟨RX11, "wasOf", "(II)I"⟩
abbrev cX11_was : ByteArray := prog_13_method_77_code
def yX11_was : MethodName := ⟨RX11, "was", "(II)I"⟩
abbrev cX11_askOf : ByteArray := prog_13_method_78_code
def yX11_askOf : MethodName := ⟨RX11, "askOf", "(I)I"⟩
abbrev cX11_ask : ByteArray := prog_13_method_79_code
def yX11_ask : MethodName := ⟨RX11, "ask", "(I)I"⟩
abbrev cX11_virtueOf : ByteArray := prog_13_method_80_code
def yX11_virtueOf : MethodName := ⟨RX11, "virtueOf", "(IIII)J"⟩
abbrev cX11_virtue : ByteArray := prog_13_method_81_code
def yX11_virtue : MethodName := ⟨RX11, "virtue", "(IIII)J"⟩
abbrev cX11_yearsOf : ByteArray := prog_13_method_82_code
def yX11_yearsOf : MethodName := ⟨RX11, "yearsOf", "(III)I"⟩
abbrev cX11_years : ByteArray := prog_13_method_83_code
def yX11_years : MethodName := ⟨RX11, "years", "(III)I"⟩
abbrev cX11_meets : ByteArray := prog_13_method_84_code
def yX11_meets : MethodName := ⟨RX11, "meets", "(I)I"⟩
abbrev cX11_isSheet : ByteArray := prog_13_method_85_code
def yX11_isSheet : MethodName := ⟨RX11, "isSheet", "(I)Z"⟩
abbrev cX11_sheet : ByteArray := prog_13_method_86_code
def yX11_sheet : MethodName := ⟨RX11, "sheet", "(III)I"⟩
abbrev cX11_lose : ByteArray := prog_13_method_87_code
def yX11_lose : MethodName := ⟨RX11, "lose", "(I)I"⟩
abbrev cX11_lacks : ByteArray := prog_13_method_88_code
def yX11_lacks : MethodName := ⟨RX11, "lacks", "(III)I"⟩
abbrev cX11_keep : ByteArray := prog_13_method_89_code
def yX11_keep : MethodName := ⟨RX11, "keep", "(III)V"⟩
abbrev cX11_put : ByteArray := prog_13_method_90_code
def yX11_put : MethodName := ⟨RX11, "put", "(IIII)I"⟩
abbrev cX11_get : ByteArray := prog_13_method_91_code
def yX11_get : MethodName := ⟨RX11, "get", "(III)I"⟩
abbrev cX11_copy : ByteArray := prog_13_method_92_code
def yX11_copy : MethodName := ⟨RX11, "copy", "(IIIII)I"⟩
abbrev cX11_write : ByteArray := prog_13_method_93_code
def yX11_write : MethodName := ⟨RX11, "write", "(II)I"⟩
abbrev cX11_sumOf : ByteArray := prog_13_method_94_code
def yX11_sumOf : MethodName := ⟨RX11, "sumOf", "(I)I"⟩
abbrev cX11_count : ByteArray := prog_13_method_95_code
def yX11_count : MethodName := ⟨RX11, "count", "(I)I"⟩
abbrev cX11_monthDigest : ByteArray := prog_13_method_96_code
def yX11_monthDigest : MethodName := ⟨RX11, "monthDigest", "(JII)J"⟩
abbrev cX11_personDigest : ByteArray := prog_13_method_97_code
def yX11_personDigest : MethodName := ⟨RX11, "personDigest", "(JI)J"⟩
abbrev cX11_deedDigest : ByteArray := prog_13_method_98_code
def yX11_deedDigest : MethodName := ⟨RX11, "deedDigest", "(JI)J"⟩
abbrev cX11_countyDigest : ByteArray := prog_13_method_99_code
def yX11_countyDigest : MethodName := ⟨RX11, "countyDigest", "(JI)J"⟩
abbrev cX11_thornDigest : ByteArray := prog_13_method_100_code
def yX11_thornDigest : MethodName := ⟨RX11, "thornDigest", "(JI)J"⟩
abbrev cX11_digest : ByteArray := prog_13_method_101_code
def yX11_digest : MethodName := ⟨RX11, "digest", "()J"⟩
abbrev cJ6_bitCount_0f7a4 : ByteArray := prog_15_method_49_code
def yJ6_bitCount_0f7a4 : MethodName := ⟨RJ6, "bitCount", "(I)I"⟩
abbrev cJ0_length_8abf5 : ByteArray := prog_17_method_54_code
def yJ0_length_8abf5 : MethodName := ⟨RJ0, "length", "()I"⟩
abbrev cJ0_indexOf_0f7a4 : ByteArray := prog_17_method_79_code
def yJ0_indexOf_0f7a4 : MethodName := ⟨RJ0, "indexOf", "(I)I"⟩
abbrev cJ0_indexOf_7cf53 : ByteArray := prog_17_method_80_code
def yJ0_indexOf_7cf53 : MethodName := ⟨RJ0, "indexOf", "(II)I"⟩
abbrev cJ0_coder_7d493 : ByteArray := prog_17_method_152_code
def yJ0_coder_7d493 : MethodName := ⟨RJ0, "coder", "()B"⟩
abbrev cJ0_isLatin1_aae02 : ByteArray := prog_17_method_154_code
def yJ0_isLatin1_aae02 : MethodName := ⟨RJ0, "isLatin1", "()Z"⟩
abbrev cJ1_canEncode_9a6ad : ByteArray := prog_18_method_4_code
def yJ1_canEncode_9a6ad : MethodName := ⟨RJ1, "canEncode", "(I)Z"⟩
abbrev cJ1_indexOf_4cfef : ByteArray := prog_18_method_22_code
def yJ1_indexOf_4cfef : MethodName := ⟨RJ1, "indexOf", "([BIII)I"⟩
abbrev cJ1_indexOfChar_4cfef : ByteArray := prog_18_method_23_code
def yJ1_indexOfChar_4cfef : MethodName := ⟨RJ1, "indexOfChar", "([BIII)I"⟩
abbrev cJ7_fill_d0a16 : ByteArray := prog_21_method_101_code
def yJ7_fill_d0a16 : MethodName := ⟨RJ7, "fill", "([JJ)V"⟩
abbrev cJ7_fill_53178 : ByteArray := prog_21_method_103_code
def yJ7_fill_53178 : MethodName := ⟨RJ7, "fill", "([II)V"⟩
end
section
/-! THE PLAIN MACHINE. The whole system's cells, by numbers of their own (0, 1 ..: in the order in which they are made): a shape that stays (zK), whole numbers that change (zS, zL). -/
abbrev zS : Type := Nat → Nat → Int32
abbrev zL : Type := Nat → Nat → Int64
/-- a cell's shape: an array (0 of ints, 1 of longs, 2 of booleans; its length) or an object (its class; its fields: a number, null, a reference) -/
abbrev zK : Type := (Nat × Nat) ⊕ (Nat × List (Option (Option Nat)))
abbrev zA : Type := ClassId × ClassId × ClassId
def zc {α : Type} (S : Nat → α) (k : Nat) (f : α) : Nat → α := fun j => if j = k then f else S j
theorem zc_eq {α : Type} (S : Nat → α) (k : Nat) (f : α) : zc S k f k = f := if_pos rfl
theorem zc_ne {α : Type} (S : Nat → α) {k j : Nat} (f : α) (h : j ≠ k) : zc S k f j = S j := if_neg h
/-- a reference by its number -/
def zv (ad : Nat → Nat) : Value → Value
  | .ref a => .ref (ad a)
  | v => v
def zf (ad : Nat → Nat) (S : zS) (k j : Nat) : Option (Option Nat) → Value
  | none => .int (S k j)
  | some r => va_rf (r.map ad)
def ze (ad : Nat → Nat) (cs : zA) (S : zS) (L : zL) (k : Nat) : zK → va_E
  | .inl (0, n) => .inl (cs.1, n, .inl (S k))
  | .inl (1, n) => .inl (cs.2.1, n, .inr (.inl (L k)))
  | .inl (_ + 2, n) => .inl (cs.2.2, n, .inl (S k))
  | .inr (ci, fl) => .inr (ci, fl.mapIdx (zf ad S k))
def zw (ad : Nat → Nat) (cs : zA) (sk : List zK) (S : zS) (L : zL) : va_W := sk.mapIdx (fun k c => (ad k, ze ad cs S L k c))
theorem zw_get {ad : Nat → Nat} {cs : zA} {sk : List zK} {S : zS} {L : zL} {k : Nat} {c : zK} (h : sk[k]? = some c) : (zw ad cs sk S L)[k]? = some (ad k, ze ad cs S L k c) := by
  simp [zw, List.getElem?_mapIdx, h]
theorem ze_congr {ad : Nat → Nat} {cs : zA} {S S' : zS} {L L' : zL} {k : Nat} (hS : S' k = S k) (hL : L' k = L k) (c : zK) : ze ad cs S' L' k c = ze ad cs S L k c := by
  match c with
  | .inl (0, n) => simp [ze, hS]
  | .inl (1, n) => simp [ze, hL]
  | .inl (_ + 2, n) => simp [ze, hS]
  | .inr (ci, fl) =>
    have e : zf ad S' k = zf ad S k := by
      funext j f
      cases f with
      | none => simp [zf, hS]
      | some r => rfl
    simp [ze, e]
/-- one cell's contents or shape is another -/
theorem zw_set {ad : Nat → Nat} {cs : zA} {sk : List zK} {S S' : zS} {L L' : zL} {k : Nat} {c c' : zK} (h : sk[k]? = some c) (hS : ∀ i, i ≠ k → S' i = S i) (hL : ∀ i, i ≠ k → L' i = L i) : (zw ad cs sk S L).set k (ad k, ze ad cs S' L' k c') = zw ad cs (sk.set k c') S' L' := by
  have hk : k < sk.length := (List.getElem?_eq_some_iff.mp h).1
  apply List.ext_getElem?
  intro i
  by_cases hi : i = k
  · subst hi
    rw [List.getElem?_set_self (by simp [zw]; exact hk), zw_get (by rw [List.getElem?_set_self hk])]
  · rw [List.getElem?_set_ne (Ne.symm hi)]
    simp only [zw, List.getElem?_mapIdx, List.getElem?_set_ne (Ne.symm hi)]
    cases sk[i]? with
    | none => rfl
    | some c2 => simp [ze_congr (hS i hi) (hL i hi)]
theorem zw_set1 {ad : Nat → Nat} {cs : zA} {sk : List zK} {S S' : zS} {L L' : zL} {k : Nat} {c : zK} (h : sk[k]? = some c) (hS : ∀ i, i ≠ k → S' i = S i) (hL : ∀ i, i ≠ k → L' i = L i) : (zw ad cs sk S L).set k (ad k, ze ad cs S' L' k c) = zw ad cs sk S' L' := by
  rw [zw_set h hS hL]
  congr 1
  apply List.ext_getElem?
  intro i
  by_cases hi : i = k
  · subst hi
    rw [List.getElem?_set_self (List.getElem?_eq_some_iff.mp h).1, h]
  · rw [List.getElem?_set_ne (Ne.symm hi)]
theorem zf_set {ad : Nat → Nat} {S : zS} {k j : Nat} {fl : List (Option (Option Nat))} {x : Int32} (h : fl[j]? = some none) : (fl.mapIdx (zf ad S k)).set j (.int x) = fl.mapIdx (zf ad (zc S k (upd (S k) j x)) k) := by
  have hj : j < fl.length := (List.getElem?_eq_some_iff.mp h).1
  apply List.ext_getElem?
  intro i
  by_cases hi : i = j
  · subst hi
    rw [List.getElem?_set_self (by simp; exact hj)]
    simp [List.getElem?_mapIdx, h, zf, zc, upd]
  · rw [List.getElem?_set_ne (Ne.symm hi)]
    simp only [List.getElem?_mapIdx]
    cases fl[i]? with
    | none => rfl
    | some f => cases f <;> simp [zf, zc, upd, hi]
theorem zf_setR {ad : Nat → Nat} {S : zS} {k j r : Nat} {fl : List (Option (Option Nat))} (h : j < fl.length) : (fl.mapIdx (zf ad S k)).set j (.ref (ad r)) = (fl.set j (some (some r))).mapIdx (zf ad S k) := by
  apply List.ext_getElem?
  intro i
  by_cases hi : i = j
  · subst hi
    have h2 : i < (fl.mapIdx (zf ad S k)).length := by simp; exact h
    rw [List.getElem?_set_self h2, List.getElem?_mapIdx, List.getElem?_set_self h]
    rfl
  · rw [List.getElem?_set_ne (Ne.symm hi)]
    simp only [List.getElem?_mapIdx, List.getElem?_set_ne (Ne.symm hi)]
/-- of two ways to place the cells: they agree on those that there were, and on what stands outside -/
def zag (n0 : Nat) (ad0 ad : Nat → Nat) : Prop := ∀ k, k < n0 ∨ 900 ≤ k → ad k = ad0 k
theorem zag.rf {n0 : Nat} {ad : Nat → Nat} : zag n0 ad ad := fun _ _ => rfl
theorem zag.trans {n0 n1 : Nat} {a0 a1 a2 : Nat → Nat} (h1 : zag n0 a0 a1) (h2 : zag n1 a1 a2) (hn : n0 ≤ n1) : zag n0 a0 a2 := fun k hk => (h2 k (hk.imp (fun h => Nat.lt_of_lt_of_le h hn) id)).trans (h1 k hk)
def zok (n : Nat) : Value → Bool
  | .ref a => decide (a < n) || decide (900 ≤ a)
  | _ => true
theorem zok_zv {n : Nat} {a0 a1 : Nat → Nat} (h : zag n a0 a1) {v : Value} (hv : zok n v = true) : zv a1 v = zv a0 v := by
  cases v <;> simp_all [zok, zv]
  exact h _ (by omega)
theorem zok_map {n : Nat} {a0 a1 : Nat → Nat} (h : zag n a0 a1) {vs : List Value} (hv : vs.all (zok n) = true) : vs.map (zv a1) = vs.map (zv a0) := by
  apply List.map_congr_left
  intro v hm
  exact zok_zv h (List.all_eq_true.mp hv v hm)
/-- the locals, by their places -/
def zlv (ad : Nat → Nat) (lv : List (Option Value)) : List (Nat × Value) := (lv.mapIdx (fun i o => o.map (fun v => (i, zv ad v)))).filterMap id
theorem zlv_mem {ad : Nat → Nat} {lv : List (Option Value)} {q : Nat × Value} : q ∈ zlv ad lv ↔ ∃ v, lv[q.1]? = some (some v) ∧ q.2 = zv ad v := by
  obtain ⟨i, w⟩ := q
  simp only [zlv, List.mem_filterMap, id]
  constructor
  · rintro ⟨a, ha, rfl⟩
    obtain ⟨k, hk⟩ := List.getElem?_of_mem ha
    rw [List.getElem?_mapIdx] at hk
    cases ho : lv[k]? with
    | none => rw [ho] at hk; cases hk
    | some o =>
      rw [ho] at hk
      cases o with
      | none => simp at hk
      | some v =>
        simp at hk
        obtain ⟨rfl, rfl⟩ := hk
        exact ⟨v, ho, rfl⟩
  · rintro ⟨v, hv, rfl⟩
    refine ⟨some (i, zv ad v), List.mem_of_getElem? (i := i) ?_, rfl⟩
    rw [List.getElem?_mapIdx, hv]
    rfl
theorem zlv_sub {ls : Array Slot} {nL : Nat} {l l' : List (Nat × Value)} (h : lv_has ls nL l) (hs : ∀ q ∈ l', q ∈ l) : lv_has ls nL l' := ⟨h.1, h.2.1, fun q hq => h.2.2 q (hs q hq)⟩
def zokL (n : Nat) (lv : List (Option Value)) : Bool := lv.all (fun o => match o with | some v => zok n v | none => true)
theorem zok_mapL {n : Nat} {a0 a1 : Nat → Nat} (h : zag n a0 a1) {lv : List (Option Value)} (hv : zokL n lv = true) : ∀ q ∈ zlv a1 lv, q ∈ zlv a0 lv := by
  intro q hq
  obtain ⟨v, h1, h2⟩ := zlv_mem.mp hq
  refine zlv_mem.mpr ⟨v, h1, ?_⟩
  have := List.all_eq_true.mp hv (some v) (List.mem_of_getElem? h1)
  rw [h2, zok_zv h this]
theorem zv_cat (ad : Nat → Nat) (v : Value) : (zv ad v).category = v.category := by cases v <;> rfl
theorem zv_cats (ad : Nat → Nat) (st : List Value) : ((st.map (zv ad)).map fun v => v.category) = st.map fun v => v.category := by
  rw [List.map_map]
  apply List.map_congr_left
  intro v _
  exact zv_cat ad v
/-! the String constants -/
def zSn : Nat := 7
def zSo : List (String × Nat × String) := [("ShornSins", 11, "fch"), ("ShornSins", 13, "0123"), ("ShornSins", 15, "0123456789"), ("ShornSins", 24, "abcdefghijklmnopqrstuvwx"), ("ShornSins", 26, "01234567"), ("ShornSins", 28, "letm"), ("ShornSins$Text", 61, ";")]
def zSb : List (List Int32) := [[102, 99, 104], [48, 49, 50, 51], [48, 49, 50, 51, 52, 53, 54, 55, 56, 57], [97, 98, 99, 100, 101, 102, 103, 104, 105, 106, 107, 108, 109, 110, 111, 112, 113, 114, 115, 116, 117, 118, 119, 120], [48, 49, 50, 51, 52, 53, 54, 55], [108, 101, 116, 109], [59]]
def zSl : List Nat := [3, 4, 10, 24, 8, 4, 1]
def zSo' (i : Nat) : String × Nat × String := zSo.getD i ("", 0, "")
/-- links to private constructors of nest mates -/
def zNw : List (String × Nat × MethodName × String) := [("ShornSins", 35, yX8_init, "ShornSins"), ("ShornSins$Other", 9, yX8_init, "ShornSins"), ("ShornSins$Plans", 11, yX1_init, "ShornSins")]
def zG (ad : Nat → Nat) (A : Nat → Prop) (U : State) : Prop :=
  vk_S zSn zSl zSb (fun i => ad (1000 + i)) (fun i => ad (1100 + i)) A U U.heap ∧ (∀ i, i < zSn → vk_R (zSo' i).1 (zSo' i).2.1 (zSo' i).2.2 (ad (1000 + i)) U) ∧ va_Z "java/lang/String" "COMPACT_STRINGS" "Z" (.int 1) A U U.heap ∧ ∀ q ∈ zNw, va_Nw (.methodLinkNest q.1 q.2.1 q.2.2.1 q.2.2.2) U
theorem zG.ag {n : Nat} {a0 a1 : Nat → Nat} {A : Nat → Prop} {U : State} (h : zag n a0 a1) (g : zG a0 A U) : zG a1 A U := by
  have e1 : (fun i => a1 (1000 + i)) = fun i => a0 (1000 + i) := funext fun i => h _ (Or.inr (by omega))
  have e2 : (fun i => a1 (1100 + i)) = fun i => a0 (1100 + i) := funext fun i => h _ (Or.inr (by omega))
  obtain ⟨g1, g2, g3⟩ := g
  refine ⟨?_, fun i hi => ?_, g3⟩
  · rw [e1, e2]; exact g1
  · rw [h (1000 + i) (Or.inr (by omega))]; exact g2 i hi
/-- behind steps that leave what isn't A's: for a smaller set, in a warmer state -/
theorem zG.go {ad : Nat → Nat} {A B : Nat → Prop} {s U : State} (g : zG ad A s) (hW : s.WarmedH U.vm) (hk : ∀ q : Nat, q < s.heap.size → ¬ A q → U.heap[q]? = s.heap[q]?) (hB : ∀ q, B q → A q) : zG ad B U := by
  obtain ⟨g1, g2, g3, g4⟩ := g
  refine ⟨((g1.kept hk).moved hW.alike).narrow hB, fun i hi => (g2 i hi).warm hW, ((g3.kept hk).moved hW.alike).narrow hB, fun q hq => (g4 q hq).warmM hW⟩
theorem zG.calling {ad : Nat → Nat} {A : Nat → Prop} {U : State} (g : zG ad A U) (f : JFrame) (mk : MethodId) (a : Array Value) : zG ad A (U.calling f mk a) := by
  obtain ⟨g1, g2, g3, g4⟩ := g
  exact ⟨vk_S.moved (u := U) (U := U.calling f mk a) (Vm.Alike.refl U.vm) g1, fun i hi => vk_R.same (u := U) (U := U.calling f mk a) rfl (g2 i hi), va_Z.moved (u := U) (U := U.calling f mk a) (Vm.Alike.refl U.vm) g3, fun q hq => va_Nw.same (u := U) (U := U.calling f mk a) rfl rfl (g4 q hq)⟩

/-! a method: its name, bytes, places for locals, answer, room -/
abbrev zM : Type := MethodName × ByteArray × Nat × Option FieldType × Room
abbrev zy (M : zM) : MethodName := M.1
abbrev zb (M : zM) : ByteArray := M.2.1
abbrev zn (M : zM) : Nat := M.2.2.1
abbrev zr (M : zM) : Option FieldType := M.2.2.2.1
abbrev zm (M : zM) : Room := M.2.2.2.2
abbrev zP : Type := Option Value → List zK → zS → zL → Prop
abbrev ztys (cs : zA) : List (ClassId × FieldType) := [(cs.1, .int), (cs.2.1, .long), (cs.2.2, .boolean)]
/-- what stays while a method runs -/
def zX (M : zM) (X : Nat × (Nat → Int32)) (p : Program) (s : State) (m : MethodId) (args : Array Value) (meth : Method) (c : Code) (A : Nat → Prop) (ad : Nat → Nat) (D : va_G) (cs : zA) : Prop :=
  (p.tables.exec = Jvm.exec ∧ c.code = zb M ∧ meth.sig.returnType = zr M ∧ c.maxLocals = zn M ∧ s.vm.findClass (zy M).cls = some m.cls ∧ (∀ w ∈ zTB, w.before args s = true) ∧ meth.name = (zy M).name ∧ meth.locks = false) ∧
  (va_K D vwCl (ztys cs) s ∧ (∀ q, s.heap.size ≤ q → A q)) ∧ zG ad A s ∧ ((zy M).name = "law" → va_X (ad 999) X.1 X.2 s s.heap ∧ ad 999 < s.heap.size ∧ ¬ A (ad 999))
/-- a method's end -/
def zQ (n0 : Nat) (ad0 : Nat → Nat) (A : Nat → Prop) (D : va_G) (cs : zA) (post : zP) : Array Value → State → Outcome → State → Prop := fun _ st o t =>
  (∃ (r : Option Value) (sk : List zK) (S : zS) (L : zL) (ad : Nat → Nat), o = .returned (r.map (zv ad)) ∧ post r sk S L ∧ n0 ≤ sk.length ∧ zag n0 ad0 ad ∧ va_P D vwCl (zw ad cs sk S L) t.heap ∧ va_D A (zw ad cs sk S L)) ∧ va_F A st t
/-- THE JUDGEMENT: from this place on the method M comes to its end, and there post holds of its answer and of the cells -/
def zV (M : zM) (X : Nat × (Nat → Int32)) (sk : List zK) (S : zS) (L : zL) (cn : Nat × Nat) (pc : Nat) (lv : List (Option Value)) (st : List Value) (post : zP) : Prop :=
  ∀ (p : Program) (l : Launch) (e : Env) (s : State) (m : MethodId) (args : Array Value) (below : List Frame) (meth : Method) (c : Code) (H : Heap) (locs : List Loc) (A : Nat → Prop) (ad ad0 : Nat → Nat) (n0 : Nat) (D : va_G) (cs : zA) (ls : Array Slot),
    zX M X p s m args meth c A ad D cs → n0 ≤ sk.length ∧ zag n0 ad0 ad → va_P D vwCl (zw ad cs sk S L) H → va_D A (zw ad cs sk S L) → va_S A s.heap H locs → lv_has ls (zn M) (zlv ad lv) →
    W p l e (zm M) s m args below meth c H locs cn.1 cn.2 (MQ below (zQ n0 ad0 A D cs post) args s (zm M).cells (zm M).slots A) (F0 m pc ls (st.map (zv ad)))
/-- a method's start -/
def zPc (ad : Nat → Nat) (D : va_G) (cs : zA) (sz : Nat) (sk : List zK) (S : zS) (L : zL) (av : List Value) : Array Value → State → Prop := fun v U =>
  v = (av.map (zv ad)).toArray ∧ U.heap.size = sz ∧ va_P D vwCl (zw ad cs sk S L) U.heap ∧ va_D (fun _ => True) (zw ad cs sk S L) ∧ va_K D vwCl (ztys cs) U ∧ zG ad (va_A (zw ad cs sk S L) sz) U
abbrev zws (M : zM) : List Cond := Cond.code (zy M) (zb M) (zn M) (zr M) :: zTB
/-- A CALL: with these arguments, from these cells, M returns, and post holds -/
def zCall (M : zM) (sk : List zK) (S : zS) (L : zL) (av : List Value) (post : zP) : Prop :=
  ∀ (l : Launch) (ad : Nat → Nat) (D : va_G) (cs : zA) (sz : Nat), Met l (zy M) (zws M) (zm M) (zPc ad D cs sz sk S L av) (zQ sk.length ad (va_A (zw ad cs sk S L) sz) D cs post) (zm M).cells (zm M).slots (va_A (zw ad cs sk S L) sz)
theorem zPc_blind {ad : Nat → Nat} {D : va_G} {cs : zA} {sz : Nat} {sk : List zK} {S : zS} {L : zL} {av : List Value} : FrameBlind (zPc ad D cs sz sk S L av) := by
  intro a U g mk h
  obtain ⟨h1, h2, h3, h4, h5, h6⟩ := h
  exact ⟨h1, h2, h3, h4, va_K.moved (u := U) (U := U.calling g mk a) (Vm.Alike.refl U.vm) h5, h6.calling g mk a⟩
theorem zV_mono {M : zM} {X : Nat × (Nat → Int32)} {sk : List zK} {S : zS} {L : zL} {cn : Nat × Nat} {pc : Nat} {lv : List (Option Value)} {st : List Value} {post post' : zP} (h : zV M X sk S L cn pc lv st post) (hp : ∀ r sk S L, post r sk S L → post' r sk S L) : zV M X sk S L cn pc lv st post' := by
  intro p l e s m args below meth c H locs A ad ad0 n0 D cs ls hX hn hP hD hS hl T hT X
  obtain ⟨t, a, o, b1, b2, ⟨⟨r, sk', S', L', ad', q1, q2, q3⟩, q4⟩, b4⟩ := h p l e s m args below meth c H locs A ad ad0 n0 D cs ls hX hn hP hD hS hl T hT X
  exact ⟨t, a, o, b1, b2, ⟨⟨r, sk', S', L', ad', q1, hp _ _ _ _ q2, q3⟩, q4⟩, b4⟩
theorem z_sl (ad : Nat → Nat) (av : List Value) : (lg_sl (av.map (zv ad))).length = (lg_sl av).length := by
  induction av with
  | nil => rfl
  | cons v av ih =>
    simp only [lg_sl, List.map_cons, List.flatMap_cons, List.length_append, zv_cat] at ih ⊢
    rw [ih]
    split <;> rfl
/-- the locals at a method's start -/
def zen : List Value → List (Option Value)
  | [] => []
  | v :: vs => if v.category = 2 then some v :: none :: zen vs else some v :: zen vs
theorem z_args (ad : Nat → Nat) (av : List Value) : ∀ (i j : Nat) (v : Value), (zen av)[j]? = some (some v) → (i + j, zv ad v) ∈ lv_args i (av.map (zv ad)) := by
  induction av with
  | nil => intro i j v h; simp [zen] at h
  | cons w av ih =>
    intro i j v h
    simp only [zen] at h
    simp only [List.map_cons, lv_args, zv_cat]
    by_cases hc : w.category = 2
    · rw [if_pos hc] at h ⊢
      match j, h with
      | 0, h => simp at h; subst h; exact List.mem_cons_self
      | 1, h => simp at h
      | j + 2, h =>
        have h2 : (zen av)[j]? = some (some v) := by simpa using h
        have := ih (i + 2) j v h2
        rw [show i + (j + 2) = i + 2 + j by omega]
        exact List.mem_cons_of_mem _ this
    · rw [if_neg hc] at h ⊢
      match j, h with
      | 0, h => simp at h; subst h; exact List.mem_cons_self
      | j + 1, h =>
        have h2 : (zen av)[j]? = some (some v) := by simpa using h
        have := ih (i + 1) j v h2
        rw [show i + (j + 1) = i + 1 + j by omega]
        exact List.mem_cons_of_mem _ this
/-- the entry -/
theorem zV_entry {M : zM} {sk : List zK} {S : zS} {L : zL} {av : List Value} {post : zP} (hy : plainName (zy M).cls = true) (hn : (zy M).name ≠ "law") (hz : (lg_sl av).length ≤ zn M) (h : ∀ X, zV M X sk S L (0, 0) 0 (zen av) [] post) : zCall M sk S L av post := by
  intro l ad D cs sz
  refine Met.ofW (cc := zb M) (maxL := zn M) (ret := zr M) hy rfl ?_
  intro p e s m args below meth c s₁ B hml hv
  obtain ⟨rfl, hsz, hP, hD, hK, hG⟩ := hv
  subst hsz
  have hts := atoms_spec (ws := zws M) B.pre
  have hown : s.vm.findClass (zy M).cls = some m.cls := findClass_of_methodNamed B.named
  have hin : meth.name = (zy M).name := (name_of_methodNamed B.named B.method).1
  have hl := lv_entry (av.map (zv ad)) (n := zn M) (by rw [z_sl]; exact hz)
  have hl := zlv_sub (l' := zlv ad (zen av)) hl (fun q hq => by
    obtain ⟨v, h1, h2⟩ := zlv_mem.mp hq
    have := z_args ad av 0 q.1 v h1
    rw [Nat.zero_add, ← h2] at this
    exact this)
  rw [lg_entry_eq]
  exact h (0, fun _ => 0) p l e s m _ below meth c s.heap [] _ ad ad sk.length D cs _ ⟨⟨B.exec, B.bytes, B.returns, hml, hown, fun w hw => hts w (List.mem_cons_of_mem _ hw), hin, B.notSynchronized⟩, ⟨hK, fun q hq => Or.inr hq⟩, hG, fun h => absurd h hn⟩ ⟨Nat.le_refl _, zag.rf⟩ hP (hD.self) va_S.rf hl
section ZR
variable {M : zM} {X : Nat × (Nat → Int32)} {sk : List zK} {S : zS} {L : zL} {cn : Nat × Nat} {pc : Nat} {lv : List (Option Value)} {st : List Value} {post : zP}
/-! ends -/
theorem zv_iret {x : Int32} (d : decode (zb M) pc = .ok (.ireturn, 1)) (hr : zr M = some .int) (hc : cn.1 ≤ (zm M).cells ∧ cn.2 ≤ (zm M).slots) (h : post (some (.int x)) sk S L) : zV M X sk S L cn pc lv [.int x] post := by
  intro p l e s m args below meth c H locs A ad ad0 n0 D cs ls hX hn hP hD hS hl
  obtain ⟨⟨hx, hb, hrt, -, -, -, -, hlk⟩, -⟩ := hX
  refine W.widen hc.1 hc.2 ?_
  exact W.iret (v := x) hx hb (hrt.trans hr) (fun t ht hW => ⟨⟨some (.int x), sk, S, L, ad, rfl, h, hn.1, hn.2, by rw [ht]; exact hP, hD⟩, hS.F ht⟩) hS.2.2 d hlk
theorem zv_zret {x : Int32} {ty : FieldType} (d : decode (zb M) pc = .ok (.ireturn, 1)) (hr : zr M = some ty) (hnr : narrow ty (.int x) = .int x) (hc : cn.1 ≤ (zm M).cells ∧ cn.2 ≤ (zm M).slots) (h : post (some (.int x)) sk S L) : zV M X sk S L cn pc lv [.int x] post := by
  intro p l e s m args below meth c H locs A ad ad0 n0 D cs ls hX hn hP hD hS hl
  obtain ⟨⟨hx, hb, hrt, -, -, -, -, hlk⟩, -⟩ := hX
  refine W.widen hc.1 hc.2 ?_
  exact W.zret (v := x) hx hb (hrt.trans hr) hnr (fun t ht hW => ⟨⟨some (.int x), sk, S, L, ad, rfl, h, hn.1, hn.2, by rw [ht]; exact hP, hD⟩, hS.F ht⟩) hS.2.2 d hlk
theorem zv_lret {x : Int64} (d : decode (zb M) pc = .ok (.lreturn, 1)) (hr : zr M = some .long) (hc : cn.1 ≤ (zm M).cells ∧ cn.2 ≤ (zm M).slots) (h : post (some (.long x)) sk S L) : zV M X sk S L cn pc lv [.long x] post := by
  intro p l e s m args below meth c H locs A ad ad0 n0 D cs ls hX hn hP hD hS hl
  obtain ⟨⟨hx, hb, hrt, -, -, -, -, hlk⟩, -⟩ := hX
  refine W.widen hc.1 hc.2 ?_
  exact W.lret (v := x) hx hb (hrt.trans hr) (fun t ht hW => ⟨⟨some (.long x), sk, S, L, ad, rfl, h, hn.1, hn.2, by rw [ht]; exact hP, hD⟩, hS.F ht⟩) hS.2.2 d hlk
theorem zv_vret (d : decode (zb M) pc = .ok (.return_, 1)) (hr : zr M = none) (hc : cn.1 ≤ (zm M).cells ∧ cn.2 ≤ (zm M).slots) (h : post none sk S L) : zV M X sk S L cn pc lv [] post := by
  intro p l e s m args below meth c H locs A ad ad0 n0 D cs ls hX hn hP hD hS hl
  obtain ⟨⟨hx, hb, hrt, -, -, -, -, hlk⟩, -⟩ := hX
  refine W.widen hc.1 hc.2 ?_
  exact W.vret hx hb (hrt.trans hr) (fun t ht hW => ⟨⟨none, sk, S, L, ad, rfl, h, hn.1, hn.2, by rw [ht]; exact hP, hD⟩, hS.F ht⟩) hS.2.2 d hlk
theorem zv_aret {x : Nat} {o : String} (d : decode (zb M) pc = .ok (.areturn, 1)) (hr : zr M = some (.object o)) (hc : cn.1 ≤ (zm M).cells ∧ cn.2 ≤ (zm M).slots) (h : post (some (.ref x)) sk S L) : zV M X sk S L cn pc lv [.ref x] post := by
  intro p l e s m args below meth c H locs A ad ad0 n0 D cs ls hX hn hP hD hS hl
  obtain ⟨⟨hx, hb, hrt, -, -, -, -, hlk⟩, -⟩ := hX
  refine W.widen hc.1 hc.2 ?_
  exact W.aret (v := .ref (ad x)) hx hb (hrt.trans hr) (Or.inl ⟨_, rfl⟩) (Or.inr ⟨_, rfl⟩) (fun t ht hW => ⟨⟨some (.ref x), sk, S, L, ad, rfl, h, hn.1, hn.2, by rw [ht]; exact hP, hD⟩, hS.F ht⟩) hS.2.2 d hlk
end ZR
end
section
section ZI
variable {M : zM} {X : Nat × (Nat → Int32)} {sk : List zK} {S : zS} {L : zL} {cn : Nat × Nat} {pc : Nat} {lv : List (Option Value)} {st : List Value} {post : zP}
theorem zV_drop {lv' : List (Option Value)} (hs : ∀ (i : Nat) (v : Value), lv'[i]? = some (some v) → lv[i]? = some (some v)) (k : zV M X sk S L cn pc lv' st post) : zV M X sk S L cn pc lv st post := by
  intro p l e s m args below meth c H locs A ad ad0 n0 D cs ls hX hn hP hD hS hl
  refine k p l e s m args below meth c H locs A ad ad0 n0 D cs ls hX hn hP hD hS (zlv_sub hl (fun q hq => ?_))
  obtain ⟨v, h1, h2⟩ := zlv_mem.mp hq
  exact zlv_mem.mpr ⟨v, hs _ _ h1, h2⟩
theorem zlv_at {ad : Nat → Nat} {ls : Array Slot} {nL : Nat} (h : lv_has ls nL (zlv ad lv)) {i : Nat} {v : Value} (hv : lv[i]? = some (some v)) : ls[i]? = some (.val (zv ad v)) := h.2.2 (i, zv ad v) (zlv_mem.mpr ⟨v, hv, rfl⟩)
/-- no long stands half ahead of place i -/
def zp1 (lv : List (Option Value)) (i : Nat) : Bool := match i with
  | 0 => true
  | j + 1 => match lv[j]? with
    | some (some v) => v.category == 1
    | _ => true
theorem zlv_st1 {ad : Nat → Nat} {ls : Array Slot} {nL i : Nat} {v : Value} (hp : zp1 lv i = true) (h : lv_has ls nL ((i, zv ad v) :: (zlv ad lv).filter (fun q => !(q.1 == i) && !(q.1 + 1 == i && q.2.category == 2)))) : lv_has ls nL (zlv ad (lv.set i (some v))) := by
  refine zlv_sub h (fun q hq => ?_)
  obtain ⟨w, h1, h2⟩ := zlv_mem.mp hq
  by_cases hi : q.1 = i
  · subst hi
    by_cases hl : q.1 < lv.length
    · rw [List.getElem?_set_self hl] at h1
      cases h1
      rw [show q = (q.1, zv ad v) from by rw [← h2]]
      exact List.mem_cons_self
    · rw [List.getElem?_eq_none (by simp; omega)] at h1
      cases h1
  · rw [List.getElem?_set_ne (Ne.symm hi)] at h1
    refine List.mem_cons_of_mem _ (List.mem_filter.mpr ⟨zlv_mem.mpr ⟨w, h1, h2⟩, ?_⟩)
    have hc : ¬ (q.1 + 1 = i ∧ q.2.category = 2) := by
      rintro ⟨rfl, h4⟩
      simp only [zp1, h1] at hp
      rw [h2, zv_cat] at h4
      simp [h4] at hp
    simp only [Bool.and_eq_true, Bool.not_eq_true', beq_eq_false_iff_ne, ne_eq, Bool.and_eq_false_iff]
    refine ⟨hi, ?_⟩
    by_cases h5 : q.1 + 1 = i
    · exact Or.inr (fun h6 => hc ⟨h5, h6⟩)
    · exact Or.inl h5
theorem zlv_st2 {ad : Nat → Nat} {ls : Array Slot} {nL i : Nat} {v : Value} (hp : zp1 lv i = true) (h : lv_has ls nL ((i, zv ad v) :: (zlv ad lv).filter (fun q => !(q.1 == i) && (!(q.1 == i + 1) && !(q.1 + 1 == i && q.2.category == 2))))) : lv_has ls nL (zlv ad ((lv.set i (some v)).set (i + 1) none)) := by
  refine zlv_sub h (fun q hq => ?_)
  obtain ⟨w, h1, h2⟩ := zlv_mem.mp hq
  by_cases hi1 : q.1 = i + 1
  · exfalso
    rw [hi1] at h1
    by_cases hl : i + 1 < (lv.set i (some v)).length
    · rw [List.getElem?_set_self hl] at h1
      cases h1
    · rw [List.getElem?_eq_none (by rw [List.length_set]; omega)] at h1
      cases h1
  · rw [List.getElem?_set_ne (Ne.symm hi1)] at h1
    by_cases hi : q.1 = i
    · subst hi
      by_cases hl : q.1 < lv.length
      · rw [List.getElem?_set_self hl] at h1
        cases h1
        rw [show q = (q.1, zv ad v) from by rw [← h2]]
        exact List.mem_cons_self
      · rw [List.getElem?_eq_none (by simp; omega)] at h1
        cases h1
    · rw [List.getElem?_set_ne (Ne.symm hi)] at h1
      refine List.mem_cons_of_mem _ (List.mem_filter.mpr ⟨zlv_mem.mpr ⟨w, h1, h2⟩, ?_⟩)
      have hc : ¬ (q.1 + 1 = i ∧ q.2.category = 2) := by
        rintro ⟨rfl, h4⟩
        simp only [zp1, h1] at hp
        rw [h2, zv_cat] at h4
        simp [h4] at hp
      simp only [Bool.and_eq_true, Bool.not_eq_true', beq_eq_false_iff_ne, ne_eq, Bool.and_eq_false_iff]
      refine ⟨hi, hi1, ?_⟩
      by_cases h5 : q.1 + 1 = i
      · exact Or.inr (fun h6 => hc ⟨h5, h6⟩)
      · exact Or.inl h5
theorem zi_iconst {n : Int} {v : Int32} (d : decode (zb M) pc = .ok (.iconst n, 1)) (hv : Int32.ofInt n = v) (k : zV M X sk S L cn (pc + 1) lv (.int v :: st) post) : zV M X sk S L cn pc lv st post := by
  intro p l e s m args below meth c H locs A ad ad0 n0 D cs ls hX hn hP hD hS hl
  exact lv_iconst hX.1.1 hX.1.2.1 d hv (k p l e s m args below meth c H locs A ad ad0 n0 D cs ls hX hn hP hD hS hl)
theorem zi_bipush {n : Int} {v : Int32} (d : decode (zb M) pc = .ok (.bipush n, 2)) (hv : (Int8.ofInt n).toInt32 = v) (k : zV M X sk S L cn (pc + 2) lv (.int v :: st) post) : zV M X sk S L cn pc lv st post := by
  intro p l e s m args below meth c H locs A ad ad0 n0 D cs ls hX hn hP hD hS hl
  exact lv_bipush hX.1.1 hX.1.2.1 d hv (k p l e s m args below meth c H locs A ad ad0 n0 D cs ls hX hn hP hD hS hl)
theorem zi_sipush {n : Int} {v : Int32} (d : decode (zb M) pc = .ok (.sipush n, 3)) (hv : (Int16.ofInt n).toInt32 = v) (k : zV M X sk S L cn (pc + 3) lv (.int v :: st) post) : zV M X sk S L cn pc lv st post := by
  intro p l e s m args below meth c H locs A ad ad0 n0 D cs ls hX hn hP hD hS hl
  exact lv_sipush hX.1.1 hX.1.2.1 d hv (k p l e s m args below meth c H locs A ad ad0 n0 D cs ls hX hn hP hD hS hl)
theorem zi_lconst {n : Fin 2} {v : Int64} (d : decode (zb M) pc = .ok (.lconst n, 1)) (hv : Int64.ofNat (n : Nat) = v) (k : zV M X sk S L cn (pc + 1) lv (.long v :: st) post) : zV M X sk S L cn pc lv st post := by
  intro p l e s m args below meth c H locs A ad ad0 n0 D cs ls hX hn hP hD hS hl
  exact lv_lconst hX.1.1 hX.1.2.1 d hv (k p l e s m args below meth c H locs A ad ad0 n0 D cs ls hX hn hP hD hS hl)
theorem zi_iload_n {n : Fin 4} {i : Nat} {x : Int32} (d : decode (zb M) pc = .ok (.iload_n n, 1)) (hi : (n : Nat) = i) (hv : lv[i]? = some (some (.int x))) (k : zV M X sk S L cn (pc + 1) lv (.int x :: st) post) : zV M X sk S L cn pc lv st post := by
  intro p l e s m args below meth c H locs A ad ad0 n0 D cs ls hX hn hP hD hS hl
  exact lv_iload_n hX.1.1 hX.1.2.1 d hi (zlv_at hl hv) (k p l e s m args below meth c H locs A ad ad0 n0 D cs ls hX hn hP hD hS hl)
theorem zi_iload {i : Nat} {x : Int32} (d : decode (zb M) pc = .ok (.iload i, 2)) (hv : lv[i]? = some (some (.int x))) (k : zV M X sk S L cn (pc + 2) lv (.int x :: st) post) : zV M X sk S L cn pc lv st post := by
  intro p l e s m args below meth c H locs A ad ad0 n0 D cs ls hX hn hP hD hS hl
  exact lv_iload hX.1.1 hX.1.2.1 d (zlv_at hl hv) (k p l e s m args below meth c H locs A ad ad0 n0 D cs ls hX hn hP hD hS hl)
theorem zi_istore_n {n : Fin 4} {i : Nat} {x : Int32} (d : decode (zb M) pc = .ok (.istore_n n, 1)) (hi : (n : Nat) = i) (hn2 : i < zn M) (hp : zp1 lv i = true) (k : zV M X sk S L cn (pc + 1) (lv.set i (some (.int x))) st post) : zV M X sk S L cn pc lv (.int x :: st) post := by
  intro p l e s m args below meth c H locs A ad ad0 n0 D cs ls hX hn hP hD hS hl
  refine lv_istore_n (lv' := _) hX.1.1 hX.1.2.1 d hi hl hn2 rfl (fun ls' hl' => ?_)
  exact k p l e s m args below meth c H locs A ad ad0 n0 D cs ls' hX hn hP hD hS (zlv_st1 hp hl')
theorem zi_istore {i : Nat} {x : Int32} (d : decode (zb M) pc = .ok (.istore i, 2)) (hn2 : i < zn M) (hp : zp1 lv i = true) (k : zV M X sk S L cn (pc + 2) (lv.set i (some (.int x))) st post) : zV M X sk S L cn pc lv (.int x :: st) post := by
  intro p l e s m args below meth c H locs A ad ad0 n0 D cs ls hX hn hP hD hS hl
  refine lv_istore (lv' := _) hX.1.1 hX.1.2.1 d hl hn2 rfl (fun ls' hl' => ?_)
  exact k p l e s m args below meth c H locs A ad ad0 n0 D cs ls' hX hn hP hD hS (zlv_st1 hp hl')
theorem zi_lload_n {n : Fin 4} {i : Nat} {x : Int64} (d : decode (zb M) pc = .ok (.lload_n n, 1)) (hi : (n : Nat) = i) (hv : lv[i]? = some (some (.long x))) (k : zV M X sk S L cn (pc + 1) lv (.long x :: st) post) : zV M X sk S L cn pc lv st post := by
  intro p l e s m args below meth c H locs A ad ad0 n0 D cs ls hX hn hP hD hS hl
  exact lv_lload_n hX.1.1 hX.1.2.1 d hi (zlv_at hl hv) (k p l e s m args below meth c H locs A ad ad0 n0 D cs ls hX hn hP hD hS hl)
theorem zi_lload {i : Nat} {x : Int64} (d : decode (zb M) pc = .ok (.lload i, 2)) (hv : lv[i]? = some (some (.long x))) (k : zV M X sk S L cn (pc + 2) lv (.long x :: st) post) : zV M X sk S L cn pc lv st post := by
  intro p l e s m args below meth c H locs A ad ad0 n0 D cs ls hX hn hP hD hS hl
  exact lv_lload hX.1.1 hX.1.2.1 d (zlv_at hl hv) (k p l e s m args below meth c H locs A ad ad0 n0 D cs ls hX hn hP hD hS hl)
theorem zi_lstore_n {n : Fin 4} {i : Nat} {x : Int64} (d : decode (zb M) pc = .ok (.lstore_n n, 1)) (hi : (n : Nat) = i) (hn2 : i + 1 < zn M) (hp : zp1 lv i = true) (k : zV M X sk S L cn (pc + 1) ((lv.set i (some (.long x))).set (i + 1) none) st post) : zV M X sk S L cn pc lv (.long x :: st) post := by
  intro p l e s m args below meth c H locs A ad ad0 n0 D cs ls hX hn hP hD hS hl
  refine lv_lstore_n (lv' := _) hX.1.1 hX.1.2.1 d hi hl hn2 rfl (fun ls' hl' => ?_)
  exact k p l e s m args below meth c H locs A ad ad0 n0 D cs ls' hX hn hP hD hS (zlv_st2 hp hl')
theorem zi_lstore {i : Nat} {x : Int64} (d : decode (zb M) pc = .ok (.lstore i, 2)) (hn2 : i + 1 < zn M) (hp : zp1 lv i = true) (k : zV M X sk S L cn (pc + 2) ((lv.set i (some (.long x))).set (i + 1) none) st post) : zV M X sk S L cn pc lv (.long x :: st) post := by
  intro p l e s m args below meth c H locs A ad ad0 n0 D cs ls hX hn hP hD hS hl
  refine lv_lstore (lv' := _) hX.1.1 hX.1.2.1 d hl hn2 rfl (fun ls' hl' => ?_)
  exact k p l e s m args below meth c H locs A ad ad0 n0 D cs ls' hX hn hP hD hS (zlv_st2 hp hl')
theorem zi_aload_n {n : Fin 4} {i : Nat} {x : Nat} (d : decode (zb M) pc = .ok (.aload_n n, 1)) (hi : (n : Nat) = i) (hv : lv[i]? = some (some (.ref x))) (k : zV M X sk S L cn (pc + 1) lv (.ref x :: st) post) : zV M X sk S L cn pc lv st post := by
  intro p l e s m args below meth c H locs A ad ad0 n0 D cs ls hX hn hP hD hS hl
  exact lv_aload_n hX.1.1 hX.1.2.1 d hi (zlv_at hl hv) (k p l e s m args below meth c H locs A ad ad0 n0 D cs ls hX hn hP hD hS hl)
theorem zi_aload {i : Nat} {x : Nat} (d : decode (zb M) pc = .ok (.aload i, 2)) (hv : lv[i]? = some (some (.ref x))) (k : zV M X sk S L cn (pc + 2) lv (.ref x :: st) post) : zV M X sk S L cn pc lv st post := by
  intro p l e s m args below meth c H locs A ad ad0 n0 D cs ls hX hn hP hD hS hl
  exact lv_aload hX.1.1 hX.1.2.1 d (zlv_at hl hv) (k p l e s m args below meth c H locs A ad ad0 n0 D cs ls hX hn hP hD hS hl)
theorem zi_astore_n {n : Fin 4} {i : Nat} {x : Nat} (d : decode (zb M) pc = .ok (.astore_n n, 1)) (hi : (n : Nat) = i) (hn2 : i < zn M) (hp : zp1 lv i = true) (k : zV M X sk S L cn (pc + 1) (lv.set i (some (.ref x))) st post) : zV M X sk S L cn pc lv (.ref x :: st) post := by
  intro p l e s m args below meth c H locs A ad ad0 n0 D cs ls hX hn hP hD hS hl
  refine lv_astore_n (lv' := _) hX.1.1 hX.1.2.1 d hi hl hn2 rfl (fun ls' hl' => ?_)
  exact k p l e s m args below meth c H locs A ad ad0 n0 D cs ls' hX hn hP hD hS (zlv_st1 hp hl')
theorem zi_astore {i : Nat} {x : Nat} (d : decode (zb M) pc = .ok (.astore i, 2)) (hn2 : i < zn M) (hp : zp1 lv i = true) (k : zV M X sk S L cn (pc + 2) (lv.set i (some (.ref x))) st post) : zV M X sk S L cn pc lv (.ref x :: st) post := by
  intro p l e s m args below meth c H locs A ad ad0 n0 D cs ls hX hn hP hD hS hl
  refine lv_astore (lv' := _) hX.1.1 hX.1.2.1 d hl hn2 rfl (fun ls' hl' => ?_)
  exact k p l e s m args below meth c H locs A ad ad0 n0 D cs ls' hX hn hP hD hS (zlv_st1 hp hl')
theorem zi_iinc {i : Nat} {n : Int} {x v : Int32} (d : decode (zb M) pc = .ok (.iinc i n, 3)) (hv : lv[i]? = some (some (.int x))) (he : x + Int32.ofInt n = v) (hn2 : i < zn M) (hp : zp1 lv i = true) (k : zV M X sk S L cn (pc + 3) (lv.set i (some (.int v))) st post) : zV M X sk S L cn pc lv st post := by
  intro p l e s m args below meth c H locs A ad ad0 n0 D cs ls hX hn hP hD hS hl
  obtain ⟨j, hj⟩ := List.getElem?_of_mem (zlv_mem (ad := ad) (q := (i, .int x)).mpr ⟨_, hv, rfl⟩)
  refine lv_iinc (lv' := _) hX.1.1 hX.1.2.1 d hl (k := j) hj he hn2 rfl (fun ls' hl' => ?_)
  exact k p l e s m args below meth c H locs A ad ad0 n0 D cs ls' hX hn hP hD hS (zlv_st1 (v := .int v) hp hl')
theorem zi_iadd {x y : Int32} (d : decode (zb M) pc = .ok (.iadd, 1)) (k : zV M X sk S L cn (pc + 1) lv (.int (x + y) :: st) post) : zV M X sk S L cn pc lv (.int y :: .int x :: st) post := by
  intro p l e s m args below meth c H locs A ad ad0 n0 D cs ls hX hn hP hD hS hl
  exact lv_iadd hX.1.1 hX.1.2.1 d (k p l e s m args below meth c H locs A ad ad0 n0 D cs ls hX hn hP hD hS hl)
theorem zi_isub {x y : Int32} (d : decode (zb M) pc = .ok (.isub, 1)) (k : zV M X sk S L cn (pc + 1) lv (.int (x - y) :: st) post) : zV M X sk S L cn pc lv (.int y :: .int x :: st) post := by
  intro p l e s m args below meth c H locs A ad ad0 n0 D cs ls hX hn hP hD hS hl
  exact lv_isub hX.1.1 hX.1.2.1 d (k p l e s m args below meth c H locs A ad ad0 n0 D cs ls hX hn hP hD hS hl)
theorem zi_imul {x y : Int32} (d : decode (zb M) pc = .ok (.imul, 1)) (k : zV M X sk S L cn (pc + 1) lv (.int (x * y) :: st) post) : zV M X sk S L cn pc lv (.int y :: .int x :: st) post := by
  intro p l e s m args below meth c H locs A ad ad0 n0 D cs ls hX hn hP hD hS hl
  exact lv_imul hX.1.1 hX.1.2.1 d (k p l e s m args below meth c H locs A ad ad0 n0 D cs ls hX hn hP hD hS hl)
theorem zi_iand {x y : Int32} (d : decode (zb M) pc = .ok (.iand, 1)) (k : zV M X sk S L cn (pc + 1) lv (.int (x &&& y) :: st) post) : zV M X sk S L cn pc lv (.int y :: .int x :: st) post := by
  intro p l e s m args below meth c H locs A ad ad0 n0 D cs ls hX hn hP hD hS hl
  exact lv_iand hX.1.1 hX.1.2.1 d (k p l e s m args below meth c H locs A ad ad0 n0 D cs ls hX hn hP hD hS hl)
theorem zi_ior {x y : Int32} (d : decode (zb M) pc = .ok (.ior, 1)) (k : zV M X sk S L cn (pc + 1) lv (.int (x ||| y) :: st) post) : zV M X sk S L cn pc lv (.int y :: .int x :: st) post := by
  intro p l e s m args below meth c H locs A ad ad0 n0 D cs ls hX hn hP hD hS hl
  exact lv_ior hX.1.1 hX.1.2.1 d (k p l e s m args below meth c H locs A ad ad0 n0 D cs ls hX hn hP hD hS hl)
theorem zi_ishl {x y : Int32} (d : decode (zb M) pc = .ok (.ishl, 1)) (k : zV M X sk S L cn (pc + 1) lv (.int (x <<< (y &&& 31)) :: st) post) : zV M X sk S L cn pc lv (.int y :: .int x :: st) post := by
  intro p l e s m args below meth c H locs A ad ad0 n0 D cs ls hX hn hP hD hS hl
  exact lv_ishl hX.1.1 hX.1.2.1 d (k p l e s m args below meth c H locs A ad ad0 n0 D cs ls hX hn hP hD hS hl)
theorem zi_ishr {x y : Int32} (d : decode (zb M) pc = .ok (.ishr, 1)) (k : zV M X sk S L cn (pc + 1) lv (.int (x >>> (y &&& 31)) :: st) post) : zV M X sk S L cn pc lv (.int y :: .int x :: st) post := by
  intro p l e s m args below meth c H locs A ad ad0 n0 D cs ls hX hn hP hD hS hl
  exact lv_ishr hX.1.1 hX.1.2.1 d (k p l e s m args below meth c H locs A ad ad0 n0 D cs ls hX hn hP hD hS hl)
theorem zi_idiv {x y : Int32} (d : decode (zb M) pc = .ok (.idiv, 1)) (hne : ¬ y = 0) (k : zV M X sk S L cn (pc + 1) lv (.int (x / y) :: st) post) : zV M X sk S L cn pc lv (.int y :: .int x :: st) post := by
  intro p l e s m args below meth c H locs A ad ad0 n0 D cs ls hX hn hP hD hS hl
  exact lv_idiv hX.1.1 hX.1.2.1 d hne (k p l e s m args below meth c H locs A ad ad0 n0 D cs ls hX hn hP hD hS hl)
theorem zi_irem {x y : Int32} (d : decode (zb M) pc = .ok (.irem, 1)) (hne : ¬ y = 0) (k : zV M X sk S L cn (pc + 1) lv (.int (x - x / y * y) :: st) post) : zV M X sk S L cn pc lv (.int y :: .int x :: st) post := by
  intro p l e s m args below meth c H locs A ad ad0 n0 D cs ls hX hn hP hD hS hl
  exact lv_irem hX.1.1 hX.1.2.1 d hne (k p l e s m args below meth c H locs A ad ad0 n0 D cs ls hX hn hP hD hS hl)
theorem zi_ladd {x y : Int64} (d : decode (zb M) pc = .ok (.ladd, 1)) (k : zV M X sk S L cn (pc + 1) lv (.long (x + y) :: st) post) : zV M X sk S L cn pc lv (.long y :: .long x :: st) post := by
  intro p l e s m args below meth c H locs A ad ad0 n0 D cs ls hX hn hP hD hS hl
  exact lv_ladd hX.1.1 hX.1.2.1 d (k p l e s m args below meth c H locs A ad ad0 n0 D cs ls hX hn hP hD hS hl)
theorem zi_lsub {x y : Int64} (d : decode (zb M) pc = .ok (.lsub, 1)) (k : zV M X sk S L cn (pc + 1) lv (.long (x - y) :: st) post) : zV M X sk S L cn pc lv (.long y :: .long x :: st) post := by
  intro p l e s m args below meth c H locs A ad ad0 n0 D cs ls hX hn hP hD hS hl
  exact lv_lsub hX.1.1 hX.1.2.1 d (k p l e s m args below meth c H locs A ad ad0 n0 D cs ls hX hn hP hD hS hl)
theorem zi_lmul {x y : Int64} (d : decode (zb M) pc = .ok (.lmul, 1)) (k : zV M X sk S L cn (pc + 1) lv (.long (x * y) :: st) post) : zV M X sk S L cn pc lv (.long y :: .long x :: st) post := by
  intro p l e s m args below meth c H locs A ad ad0 n0 D cs ls hX hn hP hD hS hl
  exact lv_lmul hX.1.1 hX.1.2.1 d (k p l e s m args below meth c H locs A ad ad0 n0 D cs ls hX hn hP hD hS hl)
theorem zi_land {x y : Int64} (d : decode (zb M) pc = .ok (.land, 1)) (k : zV M X sk S L cn (pc + 1) lv (.long (x &&& y) :: st) post) : zV M X sk S L cn pc lv (.long y :: .long x :: st) post := by
  intro p l e s m args below meth c H locs A ad ad0 n0 D cs ls hX hn hP hD hS hl
  exact lv_land hX.1.1 hX.1.2.1 d (k p l e s m args below meth c H locs A ad ad0 n0 D cs ls hX hn hP hD hS hl)
theorem zi_ldiv {x y : Int64} (d : decode (zb M) pc = .ok (.ldiv, 1)) (hne : ¬ y = 0) (k : zV M X sk S L cn (pc + 1) lv (.long (x / y) :: st) post) : zV M X sk S L cn pc lv (.long y :: .long x :: st) post := by
  intro p l e s m args below meth c H locs A ad ad0 n0 D cs ls hX hn hP hD hS hl
  exact lv_ldiv hX.1.1 hX.1.2.1 d hne (k p l e s m args below meth c H locs A ad ad0 n0 D cs ls hX hn hP hD hS hl)
theorem zi_lrem {x y : Int64} (d : decode (zb M) pc = .ok (.lrem, 1)) (hne : ¬ y = 0) (k : zV M X sk S L cn (pc + 1) lv (.long (x - x / y * y) :: st) post) : zV M X sk S L cn pc lv (.long y :: .long x :: st) post := by
  intro p l e s m args below meth c H locs A ad ad0 n0 D cs ls hX hn hP hD hS hl
  exact lv_lrem hX.1.1 hX.1.2.1 d hne (k p l e s m args below meth c H locs A ad ad0 n0 D cs ls hX hn hP hD hS hl)
theorem zi_i2l {x : Int32} (d : decode (zb M) pc = .ok (.i2l, 1)) (k : zV M X sk S L cn (pc + 1) lv (.long x.toInt64 :: st) post) : zV M X sk S L cn pc lv (.int x :: st) post := by
  intro p l e s m args below meth c H locs A ad ad0 n0 D cs ls hX hn hP hD hS hl
  exact lv_i2l hX.1.1 hX.1.2.1 d rfl (k p l e s m args below meth c H locs A ad ad0 n0 D cs ls hX hn hP hD hS hl)
theorem zi_i2b {x : Int32} (d : decode (zb M) pc = .ok (.i2b, 1)) (k : zV M X sk S L cn (pc + 1) lv (.int x.toInt8.toInt32 :: st) post) : zV M X sk S L cn pc lv (.int x :: st) post := by
  intro p l e s m args below meth c H locs A ad ad0 n0 D cs ls hX hn hP hD hS hl
  exact lv_i2b hX.1.1 hX.1.2.1 d rfl (k p l e s m args below meth c H locs A ad ad0 n0 D cs ls hX hn hP hD hS hl)
theorem zi_i2s {x : Int32} (d : decode (zb M) pc = .ok (.i2s, 1)) (k : zV M X sk S L cn (pc + 1) lv (.int x.toInt16.toInt32 :: st) post) : zV M X sk S L cn pc lv (.int x :: st) post := by
  intro p l e s m args below meth c H locs A ad ad0 n0 D cs ls hX hn hP hD hS hl
  exact lv_i2s hX.1.1 hX.1.2.1 d rfl (k p l e s m args below meth c H locs A ad ad0 n0 D cs ls hX hn hP hD hS hl)
theorem zi_i2c {x : Int32} (d : decode (zb M) pc = .ok (.i2c, 1)) (k : zV M X sk S L cn (pc + 1) lv (.int (x.toUInt32 % 65536).toInt32 :: st) post) : zV M X sk S L cn pc lv (.int x :: st) post := by
  intro p l e s m args below meth c H locs A ad ad0 n0 D cs ls hX hn hP hD hS hl
  exact lv_i2c hX.1.1 hX.1.2.1 d rfl (k p l e s m args below meth c H locs A ad ad0 n0 D cs ls hX hn hP hD hS hl)
theorem zi_iushr {x y : Int32} (d : decode (zb M) pc = .ok (.iushr, 1)) (k : zV M X sk S L cn (pc + 1) lv (.int (x.toUInt32 >>> (y.toUInt32 &&& Int32.toUInt32 31)).toInt32 :: st) post) : zV M X sk S L cn pc lv (.int y :: .int x :: st) post := by
  intro p l e s m args below meth c H locs A ad ad0 n0 D cs ls hX hn hP hD hS hl
  exact lv_iushr hX.1.1 hX.1.2.1 d rfl (k p l e s m args below meth c H locs A ad ad0 n0 D cs ls hX hn hP hD hS hl)
theorem zi_lshl {x : Int64} {y : Int32} (d : decode (zb M) pc = .ok (.lshl, 1)) (k : zV M X sk S L cn (pc + 1) lv (.long (x <<< (y.toInt64 &&& 63)) :: st) post) : zV M X sk S L cn pc lv (.int y :: .long x :: st) post := by
  intro p l e s m args below meth c H locs A ad ad0 n0 D cs ls hX hn hP hD hS hl
  exact lv_lshl hX.1.1 hX.1.2.1 d rfl (k p l e s m args below meth c H locs A ad ad0 n0 D cs ls hX hn hP hD hS hl)
theorem zi_lshr {x : Int64} {y : Int32} (d : decode (zb M) pc = .ok (.lshr, 1)) (k : zV M X sk S L cn (pc + 1) lv (.long (x >>> (y.toInt64 &&& 63)) :: st) post) : zV M X sk S L cn pc lv (.int y :: .long x :: st) post := by
  intro p l e s m args below meth c H locs A ad ad0 n0 D cs ls hX hn hP hD hS hl
  exact lv_lshr hX.1.1 hX.1.2.1 d rfl (k p l e s m args below meth c H locs A ad ad0 n0 D cs ls hX hn hP hD hS hl)
theorem zi_lcmp {x y : Int64} (d : decode (zb M) pc = .ok (.lcmp, 1)) (k : zV M X sk S L cn (pc + 1) lv (.int (lg_cmp x y) :: st) post) : zV M X sk S L cn pc lv (.long y :: .long x :: st) post := by
  intro p l e s m args below meth c H locs A ad ad0 n0 D cs ls hX hn hP hD hS hl
  exact W.lcmp hX.1.1 hX.1.2.1 d (k p l e s m args below meth c H locs A ad ad0 n0 D cs ls hX hn hP hD hS hl)
theorem zi_dup {v : Value} (d : decode (zb M) pc = .ok (.dup, 1)) (hv : v.category = 1) (k : zV M X sk S L cn (pc + 1) lv (v :: v :: st) post) : zV M X sk S L cn pc lv (v :: st) post := by
  intro p l e s m args below meth c H locs A ad ad0 n0 D cs ls hX hn hP hD hS hl
  exact lv_dup hX.1.1 hX.1.2.1 d ((zv_cat ad v).trans hv) (k p l e s m args below meth c H locs A ad ad0 n0 D cs ls hX hn hP hD hS hl)
theorem zi_pop {v : Value} (d : decode (zb M) pc = .ok (.pop, 1)) (hv : v.category = 1) (k : zV M X sk S L cn (pc + 1) lv st post) : zV M X sk S L cn pc lv (v :: st) post := by
  intro p l e s m args below meth c H locs A ad ad0 n0 D cs ls hX hn hP hD hS hl
  exact lv_pop hX.1.1 hX.1.2.1 d ((zv_cat ad v).trans hv) (k p l e s m args below meth c H locs A ad ad0 n0 D cs ls hX hn hP hD hS hl)
theorem zi_dup2_11 {v w : Value} (d : decode (zb M) pc = .ok (.dup2, 1)) (hv : v.category = 1) (hw : w.category = 1) (k : zV M X sk S L cn (pc + 1) lv (v :: w :: v :: w :: st) post) : zV M X sk S L cn pc lv (v :: w :: st) post := by
  intro p l e s m args below meth c H locs A ad ad0 n0 D cs ls hX hn hP hD hS hl
  exact lv_dup2_11 hX.1.1 hX.1.2.1 d ((zv_cat ad v).trans hv) ((zv_cat ad w).trans hw) (k p l e s m args below meth c H locs A ad ad0 n0 D cs ls hX hn hP hD hS hl)
theorem zi_dup2_2 {v : Value} (d : decode (zb M) pc = .ok (.dup2, 1)) (hv : v.category = 2) (k : zV M X sk S L cn (pc + 1) lv (v :: v :: st) post) : zV M X sk S L cn pc lv (v :: st) post := by
  intro p l e s m args below meth c H locs A ad ad0 n0 D cs ls hX hn hP hD hS hl
  exact lv_dup2_2 hX.1.1 hX.1.2.1 d ((zv_cat ad v).trans hv) (k p l e s m args below meth c H locs A ad ad0 n0 D cs ls hX hn hP hD hS hl)
theorem zi_if_eq {x : Int32} {off : Int} {tgt : Nat} (d : decode (zb M) pc = .ok (.ifCond .eq off, 3)) (ht : (pc : Int) + off = (tgt : Int)) (kt : x = 0 → zV M X sk S L cn tgt lv st post) (kf : ¬ x = 0 → zV M X sk S L cn (pc + 3) lv st post) : zV M X sk S L cn pc lv (.int x :: st) post := by
  intro p l e s m args below meth c H locs A ad ad0 n0 D cs ls hX hn hP hD hS hl
  exact lv_if_eq hX.1.1 hX.1.2.1 d ht (fun q => kt q p l e s m args below meth c H locs A ad ad0 n0 D cs ls hX hn hP hD hS hl) (fun q => kf q p l e s m args below meth c H locs A ad ad0 n0 D cs ls hX hn hP hD hS hl)
theorem zi_icmp_eq {x y : Int32} {off : Int} {tgt : Nat} (d : decode (zb M) pc = .ok (.if_icmp .eq off, 3)) (ht : (pc : Int) + off = (tgt : Int)) (kt : x = y → zV M X sk S L cn tgt lv st post) (kf : ¬ x = y → zV M X sk S L cn (pc + 3) lv st post) : zV M X sk S L cn pc lv (.int y :: .int x :: st) post := by
  intro p l e s m args below meth c H locs A ad ad0 n0 D cs ls hX hn hP hD hS hl
  exact lv_icmp_eq hX.1.1 hX.1.2.1 d ht (fun q => kt q p l e s m args below meth c H locs A ad ad0 n0 D cs ls hX hn hP hD hS hl) (fun q => kf q p l e s m args below meth c H locs A ad ad0 n0 D cs ls hX hn hP hD hS hl)
theorem zi_if_lt {x : Int32} {off : Int} {tgt : Nat} (d : decode (zb M) pc = .ok (.ifCond .lt off, 3)) (ht : (pc : Int) + off = (tgt : Int)) (kt : x < 0 → zV M X sk S L cn tgt lv st post) (kf : ¬ x < 0 → zV M X sk S L cn (pc + 3) lv st post) : zV M X sk S L cn pc lv (.int x :: st) post := by
  intro p l e s m args below meth c H locs A ad ad0 n0 D cs ls hX hn hP hD hS hl
  exact lv_if_lt hX.1.1 hX.1.2.1 d ht (fun q => kt q p l e s m args below meth c H locs A ad ad0 n0 D cs ls hX hn hP hD hS hl) (fun q => kf q p l e s m args below meth c H locs A ad ad0 n0 D cs ls hX hn hP hD hS hl)
theorem zi_icmp_lt {x y : Int32} {off : Int} {tgt : Nat} (d : decode (zb M) pc = .ok (.if_icmp .lt off, 3)) (ht : (pc : Int) + off = (tgt : Int)) (kt : x < y → zV M X sk S L cn tgt lv st post) (kf : ¬ x < y → zV M X sk S L cn (pc + 3) lv st post) : zV M X sk S L cn pc lv (.int y :: .int x :: st) post := by
  intro p l e s m args below meth c H locs A ad ad0 n0 D cs ls hX hn hP hD hS hl
  exact lv_icmp_lt hX.1.1 hX.1.2.1 d ht (fun q => kt q p l e s m args below meth c H locs A ad ad0 n0 D cs ls hX hn hP hD hS hl) (fun q => kf q p l e s m args below meth c H locs A ad ad0 n0 D cs ls hX hn hP hD hS hl)
theorem zi_if_ge {x : Int32} {off : Int} {tgt : Nat} (d : decode (zb M) pc = .ok (.ifCond .ge off, 3)) (ht : (pc : Int) + off = (tgt : Int)) (kt : 0 ≤ x → zV M X sk S L cn tgt lv st post) (kf : ¬ 0 ≤ x → zV M X sk S L cn (pc + 3) lv st post) : zV M X sk S L cn pc lv (.int x :: st) post := by
  intro p l e s m args below meth c H locs A ad ad0 n0 D cs ls hX hn hP hD hS hl
  exact lv_if_ge hX.1.1 hX.1.2.1 d ht (fun q => kt q p l e s m args below meth c H locs A ad ad0 n0 D cs ls hX hn hP hD hS hl) (fun q => kf q p l e s m args below meth c H locs A ad ad0 n0 D cs ls hX hn hP hD hS hl)
theorem zi_icmp_ge {x y : Int32} {off : Int} {tgt : Nat} (d : decode (zb M) pc = .ok (.if_icmp .ge off, 3)) (ht : (pc : Int) + off = (tgt : Int)) (kt : y ≤ x → zV M X sk S L cn tgt lv st post) (kf : ¬ y ≤ x → zV M X sk S L cn (pc + 3) lv st post) : zV M X sk S L cn pc lv (.int y :: .int x :: st) post := by
  intro p l e s m args below meth c H locs A ad ad0 n0 D cs ls hX hn hP hD hS hl
  exact lv_icmp_ge hX.1.1 hX.1.2.1 d ht (fun q => kt q p l e s m args below meth c H locs A ad ad0 n0 D cs ls hX hn hP hD hS hl) (fun q => kf q p l e s m args below meth c H locs A ad ad0 n0 D cs ls hX hn hP hD hS hl)
theorem zi_if_gt {x : Int32} {off : Int} {tgt : Nat} (d : decode (zb M) pc = .ok (.ifCond .gt off, 3)) (ht : (pc : Int) + off = (tgt : Int)) (kt : 0 < x → zV M X sk S L cn tgt lv st post) (kf : ¬ 0 < x → zV M X sk S L cn (pc + 3) lv st post) : zV M X sk S L cn pc lv (.int x :: st) post := by
  intro p l e s m args below meth c H locs A ad ad0 n0 D cs ls hX hn hP hD hS hl
  exact lv_if_gt hX.1.1 hX.1.2.1 d ht (fun q => kt q p l e s m args below meth c H locs A ad ad0 n0 D cs ls hX hn hP hD hS hl) (fun q => kf q p l e s m args below meth c H locs A ad ad0 n0 D cs ls hX hn hP hD hS hl)
theorem zi_icmp_gt {x y : Int32} {off : Int} {tgt : Nat} (d : decode (zb M) pc = .ok (.if_icmp .gt off, 3)) (ht : (pc : Int) + off = (tgt : Int)) (kt : y < x → zV M X sk S L cn tgt lv st post) (kf : ¬ y < x → zV M X sk S L cn (pc + 3) lv st post) : zV M X sk S L cn pc lv (.int y :: .int x :: st) post := by
  intro p l e s m args below meth c H locs A ad ad0 n0 D cs ls hX hn hP hD hS hl
  exact lv_icmp_gt hX.1.1 hX.1.2.1 d ht (fun q => kt q p l e s m args below meth c H locs A ad ad0 n0 D cs ls hX hn hP hD hS hl) (fun q => kf q p l e s m args below meth c H locs A ad ad0 n0 D cs ls hX hn hP hD hS hl)
theorem zi_if_le {x : Int32} {off : Int} {tgt : Nat} (d : decode (zb M) pc = .ok (.ifCond .le off, 3)) (ht : (pc : Int) + off = (tgt : Int)) (kt : x ≤ 0 → zV M X sk S L cn tgt lv st post) (kf : ¬ x ≤ 0 → zV M X sk S L cn (pc + 3) lv st post) : zV M X sk S L cn pc lv (.int x :: st) post := by
  intro p l e s m args below meth c H locs A ad ad0 n0 D cs ls hX hn hP hD hS hl
  exact lv_if_le hX.1.1 hX.1.2.1 d ht (fun q => kt q p l e s m args below meth c H locs A ad ad0 n0 D cs ls hX hn hP hD hS hl) (fun q => kf q p l e s m args below meth c H locs A ad ad0 n0 D cs ls hX hn hP hD hS hl)
theorem zi_icmp_le {x y : Int32} {off : Int} {tgt : Nat} (d : decode (zb M) pc = .ok (.if_icmp .le off, 3)) (ht : (pc : Int) + off = (tgt : Int)) (kt : x ≤ y → zV M X sk S L cn tgt lv st post) (kf : ¬ x ≤ y → zV M X sk S L cn (pc + 3) lv st post) : zV M X sk S L cn pc lv (.int y :: .int x :: st) post := by
  intro p l e s m args below meth c H locs A ad ad0 n0 D cs ls hX hn hP hD hS hl
  exact lv_icmp_le hX.1.1 hX.1.2.1 d ht (fun q => kt q p l e s m args below meth c H locs A ad ad0 n0 D cs ls hX hn hP hD hS hl) (fun q => kf q p l e s m args below meth c H locs A ad ad0 n0 D cs ls hX hn hP hD hS hl)
theorem zi_if_ne {x : Int32} {off : Int} {tgt : Nat} (d : decode (zb M) pc = .ok (.ifCond .ne off, 3)) (ht : (pc : Int) + off = (tgt : Int)) (kt : ¬ x = 0 → zV M X sk S L cn tgt lv st post) (kf : x = 0 → zV M X sk S L cn (pc + 3) lv st post) : zV M X sk S L cn pc lv (.int x :: st) post := by
  intro p l e s m args below meth c H locs A ad ad0 n0 D cs ls hX hn hP hD hS hl
  exact lv_if_ne hX.1.1 hX.1.2.1 d ht (fun q => kt q p l e s m args below meth c H locs A ad ad0 n0 D cs ls hX hn hP hD hS hl) (fun q => kf q p l e s m args below meth c H locs A ad ad0 n0 D cs ls hX hn hP hD hS hl)
theorem zi_icmp_ne {x y : Int32} {off : Int} {tgt : Nat} (d : decode (zb M) pc = .ok (.if_icmp .ne off, 3)) (ht : (pc : Int) + off = (tgt : Int)) (kt : ¬ x = y → zV M X sk S L cn tgt lv st post) (kf : x = y → zV M X sk S L cn (pc + 3) lv st post) : zV M X sk S L cn pc lv (.int y :: .int x :: st) post := by
  intro p l e s m args below meth c H locs A ad ad0 n0 D cs ls hX hn hP hD hS hl
  exact lv_icmp_ne hX.1.1 hX.1.2.1 d ht (fun q => kt q p l e s m args below meth c H locs A ad ad0 n0 D cs ls hX hn hP hD hS hl) (fun q => kf q p l e s m args below meth c H locs A ad ad0 n0 D cs ls hX hn hP hD hS hl)
theorem zi_goto {off : Int} {tgt : Nat} (d : decode (zb M) pc = .ok (.goto off, 3)) (ht : (pc : Int) + off = (tgt : Int)) (k : zV M X sk S L cn tgt lv st post) : zV M X sk S L cn pc lv st post := by
  intro p l e s m args below meth c H locs A ad ad0 n0 D cs ls hX hn hP hD hS hl
  exact lv_goto hX.1.1 hX.1.2.1 d ht (k p l e s m args below meth c H locs A ad ad0 n0 D cs ls hX hn hP hD hS hl)
theorem zi_tableOut {dflt lo hi : Int} {offs : Array Int} {len : Nat} {x : Int32} {tgt : Nat} (d : decode (zb M) pc = .ok (.tableswitch dflt lo hi offs, len)) (h : x.toInt < lo ∨ hi < x.toInt) (ht : (pc : Int) + dflt = (tgt : Int)) (k : zV M X sk S L cn tgt lv st post) : zV M X sk S L cn pc lv (.int x :: st) post := by
  intro p l e s m args below meth c H locs A ad ad0 n0 D cs ls hX hn hP hD hS hl
  exact lv_tableOut hX.1.1 hX.1.2.1 d h ht (k p l e s m args below meth c H locs A ad ad0 n0 D cs ls hX hn hP hD hS hl)
theorem zi_tableIn {dflt lo hi : Int} {offs : Array Int} {len : Nat} {x : Int32} {off : Int} {tgt : Nat} (d : decode (zb M) pc = .ok (.tableswitch dflt lo hi offs, len)) (h1 : ¬ x.toInt < lo) (h2 : ¬ hi < x.toInt) (ho : offs[(x.toInt - lo).toNat]? = some off) (ht : (pc : Int) + off = (tgt : Int)) (k : zV M X sk S L cn tgt lv st post) : zV M X sk S L cn pc lv (.int x :: st) post := by
  intro p l e s m args below meth c H locs A ad ad0 n0 D cs ls hX hn hP hD hS hl
  exact lv_tableIn hX.1.1 hX.1.2.1 d h1 h2 ho ht (k p l e s m args below meth c H locs A ad ad0 n0 D cs ls hX hn hP hD hS hl)
theorem zi_lookup {dflt : Int} {ps : Array (Int × Int)} {len : Nat} {x : Int32} {off : Int} {tgt : Nat} (d : decode (zb M) pc = .ok (.lookupswitch dflt ps, len)) (hp : (ps.toList.zip (ps.toList.drop 1)).all (fun (a, next) => a.1 < next.1) = true) (ho : Op.lookupswitch.offset ps.toList dflt x.toInt = off) (ht : (pc : Int) + off = (tgt : Int)) (k : zV M X sk S L cn tgt lv st post) : zV M X sk S L cn pc lv (.int x :: st) post := by
  intro p l e s m args below meth c H locs A ad ad0 n0 D cs ls hX hn hP hD hS hl
  exact lv_lookup hX.1.1 hX.1.2.1 d hp ho ht (k p l e s m args below meth c H locs A ad ad0 n0 D cs ls hX hn hP hD hS hl)
theorem zi_ldc {i : Nat} {v : Int32} (d : decode (zb M) pc = .ok (.ldc i, 2)) (hc : Cond.constant (zy M).cls i v ∈ zTB) (k : zV M X sk S L cn (pc + 2) lv (.int v :: st) post) : zV M X sk S L cn pc lv st post := by
  intro p l e s m args below meth c H locs A ad ad0 n0 D cs ls hX hn hP hD hS hl
  exact lv_ldc hX.1.1 hX.1.2.1 hX.1.2.2.2.2.1 (hX.1.2.2.2.2.2.1 _ hc) d (k p l e s m args below meth c H locs A ad ad0 n0 D cs ls hX hn hP hD hS hl)
theorem zi_ldcw {i : Nat} {v : Int32} (d : decode (zb M) pc = .ok (.ldc_w i, 3)) (hc : Cond.constant (zy M).cls i v ∈ zTB) (k : zV M X sk S L cn (pc + 3) lv (.int v :: st) post) : zV M X sk S L cn pc lv st post := by
  intro p l e s m args below meth c H locs A ad ad0 n0 D cs ls hX hn hP hD hS hl
  exact lv_ldcw hX.1.1 hX.1.2.1 hX.1.2.2.2.2.1 (hX.1.2.2.2.2.2.1 _ hc) d (k p l e s m args below meth c H locs A ad ad0 n0 D cs ls hX hn hP hD hS hl)
theorem zi_ldc2 {i : Nat} {v : Int64} (d : decode (zb M) pc = .ok (.ldc2_w i, 3)) (hc : Cond.constantLong (zy M).cls i v ∈ zTB) (k : zV M X sk S L cn (pc + 3) lv (.long v :: st) post) : zV M X sk S L cn pc lv st post := by
  intro p l e s m args below meth c H locs A ad ad0 n0 D cs ls hX hn hP hD hS hl
  exact lv_ldc2 hX.1.1 hX.1.2.1 hX.1.2.2.2.2.1 (hX.1.2.2.2.2.2.1 _ hc) d (k p l e s m args below meth c H locs A ad ad0 n0 D cs ls hX hn hP hD hS hl)
/-- a String constant -/
theorem zi_ldcS {i j : Nat} (hj : j < zSn) (ho : (zSo' j).1 = (zy M).cls ∧ (zSo' j).2.1 = i) (d : decode (zb M) pc = .ok (.ldc i, 2)) (k : zV M X sk S L cn (pc + 2) lv (.ref (1000 + j) :: st) post) : zV M X sk S L cn pc lv st post := by
  intro p l e s m args below meth c H locs A ad ad0 n0 D cs ls hX hn hP hD hS hl
  have hR := hX.2.2.1.2.1 j hj
  rw [ho.1, ho.2] at hR
  exact va_ldcS hX.1.1 hX.1.2.1 hX.1.2.2.2.2.1 hR d (k p l e s m args below meth c H locs A ad ad0 n0 D cs ls hX hn hP hD hS hl)
end ZI
/-! fields -/
def zcls (ci : Nat) (C : String) (T : u_T) (N : Nat) (ty : Nat → FieldType) : Prop := vwCl[ci]? = some (C, T, N) ∧ (∀ w ∈ u_ws C T N, w ∈ zTB) ∧ (∀ k, k < N → parseFieldDescriptor (T k).2.2.1 = some (ty k)) ∧ (∀ a, a < N → ∀ b, b < N → a ≠ b → (T a).2.1 ≠ (T b).2.1)
theorem zcls0 : zcls 0 RX0 TX0 6 tyX0 := ⟨rfl, inX0, tyX0_ok, nmX0⟩
theorem zcls1 : zcls 1 RX1 TX1 2 tyX1 := ⟨rfl, inX1, tyX1_ok, nmX1⟩
theorem zcls2 : zcls 2 RX2 TX2 6 tyX2 := ⟨rfl, inX2, tyX2_ok, nmX2⟩
theorem zcls3 : zcls 3 RX3 TX3 3 tyX3 := ⟨rfl, inX3, tyX3_ok, nmX3⟩
theorem zcls4 : zcls 4 RX4 TX4 11 tyX4 := ⟨rfl, inX4, tyX4_ok, nmX4⟩
theorem zcls5 : zcls 5 RX5 TX5 4 tyX5 := ⟨rfl, inX5, tyX5_ok, nmX5⟩
theorem zcls6 : zcls 6 RX6 TX6 4 tyX6 := ⟨rfl, inX6, tyX6_ok, nmX6⟩
theorem zcls7 : zcls 7 RX7 TX7 5 tyX7 := ⟨rfl, inX7, tyX7_ok, nmX7⟩
theorem zcls8 : zcls 8 RX8 TX8 7 tyX8 := ⟨rfl, inX8, tyX8_ok, nmX8⟩
theorem zcls9 : zcls 9 RX9 TX9 5 tyX9 := ⟨rfl, inX9, tyX9_ok, nmX9⟩
theorem zcls10 : zcls 10 RX10 TX10 10 tyX10 := ⟨rfl, inX10, tyX10_ok, nmX10⟩
theorem zcls11 : zcls 11 RX11 TX11 56 tyX11 := ⟨rfl, inX11, tyX11_ok, nmX11⟩
/-- the entry idx of the class own is the field j of the class ci -/
def zfl (own : String) (idx ci j : Nat) : Prop := ∃ (C : String) (T : u_T) (N : Nat) (ty : Nat → FieldType), zcls ci C T N ty ∧ j < N ∧ Cond.fieldLink own idx (T j).1 (T j).2.1 (T j).2.2.1 ∈ zTB
def zfp (own : String) (idx ci j : Nat) (fin : Bool) (t : FieldType) : Prop := ∃ (C : String) (T : u_T) (N : Nat) (ty : Nat → FieldType), zcls ci C T N ty ∧ j < N ∧ Cond.fieldLink own idx (T j).1 (T j).2.1 (T j).2.2.1 ∈ zTB ∧ (T j).2.2.2 = fin ∧ parseFieldDescriptor (T j).2.2.1 = some t ∧ (fin = true → (T j).1 = own)
section ZF
variable {M : zM} {X : Nat × (Nat → Int32)} {sk : List zK} {S : zS} {L : zL} {cn : Nat × Nat} {pc : Nat} {lv : List (Option Value)} {st : List Value} {post : zP}
theorem zi_getv {idx ci j k : Nat} {fl : List (Option (Option Nat))} {f : Option (Option Nat)} (hf : zfl (zy M).cls idx ci j) (hk : sk[k]? = some (.inr (ci, fl))) (hj : fl[j]? = some f) (d : decode (zb M) pc = .ok (.getfield idx, 3)) {v : Value} (hv : ∀ ad, zv ad v = zf ad S k j f) (kk : zV M X sk S L cn (pc + 3) lv (v :: st) post) : zV M X sk S L cn pc lv (.ref k :: st) post := by
  intro p l e s m args below meth c H locs A ad ad0 n0 D cs ls hX hn hP hD hS hl
  obtain ⟨C, T, N, ty, ⟨hc, hin, hty, hnm⟩, hN, hlk⟩ := hf
  have h1 := kk p l e s m args below meth c H locs A ad ad0 n0 D cs ls hX hn hP hD hS hl
  refine va_get (D := D) (ci := ci) (v := zv ad v) (C := C) (T := T) (N := N) hX.1.1 hX.1.2.1 hX.1.2.2.2.2.2.1 hin hX.1.2.2.2.2.1 hX.2.1.1 hP k (zw_get hk) hc j hN (hX.1.2.2.2.2.2.1 _ hlk) (fun _ h9 => h9) ?_ d h1
  rw [hv, List.getElem?_mapIdx, hj]
  rfl
theorem zi_geti {idx ci j k : Nat} {fl : List (Option (Option Nat))} (hf : zfl (zy M).cls idx ci j) (hk : sk[k]? = some (.inr (ci, fl))) (hj : fl[j]? = some none) (d : decode (zb M) pc = .ok (.getfield idx, 3)) (kk : zV M X sk S L cn (pc + 3) lv (.int (S k j) :: st) post) : zV M X sk S L cn pc lv (.ref k :: st) post := zi_getv hf hk hj d (fun _ => rfl) kk
theorem zi_getr {idx ci j k r : Nat} {fl : List (Option (Option Nat))} (hf : zfl (zy M).cls idx ci j) (hk : sk[k]? = some (.inr (ci, fl))) (hj : fl[j]? = some (some (some r))) (d : decode (zb M) pc = .ok (.getfield idx, 3)) (kk : zV M X sk S L cn (pc + 3) lv (.ref r :: st) post) : zV M X sk S L cn pc lv (.ref k :: st) post := zi_getv hf hk hj d (fun _ => rfl) kk
theorem zi_putv {idx ci j k : Nat} {t : FieldType} {x : Int32} {fl : List (Option (Option Nat))} (hf : zfp (zy M).cls idx ci j false t) (hk : sk[k]? = some (.inr (ci, fl))) (hj : fl[j]? = some none) (hnr : narrow t (.int x) = .int x) (hft : fits t (.int x) = true) (d : decode (zb M) pc = .ok (.putfield idx, 3)) (kk : zV M X sk (zc S k (upd (S k) j x)) L cn (pc + 3) lv st post) : zV M X sk S L cn pc lv (.int x :: .ref k :: st) post := by
  intro p l e s m args below meth c H locs A ad ad0 n0 D cs ls hX hn hP hD hS hl
  obtain ⟨C, T, N, ty, ⟨hc, hin, hty, hnm⟩, hN, hlk, hfin, hpd, -⟩ := hf
  have hjl : j < fl.length := (List.getElem?_eq_some_iff.mp hj).1
  refine va_put (D := D) (ci := ci) (v := .int x) (ty := t) (C := C) (T := T) (N := N) hX.1.1 hX.1.2.1 hX.1.2.2.2.2.2.1 hin ty hty hnm hX.1.2.2.2.2.1 hX.2.1.1 hP hD hS k (zw_get hk) hc j hN (hX.1.2.2.2.2.2.1 _ hlk) (fun _ h9 => h9) hfin hpd hnr hft (by simp; exact hjl) d (fun H locs hP hD hS => ?_)
  have e1 : (zw ad cs sk S L).set k (ad k, .inr (ci, (fl.mapIdx (zf ad S k)).set j (.int x))) = zw ad cs sk (zc S k (upd (S k) j x)) L := by
    rw [zf_set hj]
    exact zw_set1 hk (fun i hi => zc_ne _ _ hi) (fun _ _ => rfl)
  rw [e1] at hP hD
  exact kk p l e s m args below meth c H locs A ad ad0 n0 D cs ls hX hn hP hD hS hl
theorem zi_puti {idx ci j k : Nat} {x : Int32} {fl : List (Option (Option Nat))} (hf : zfp (zy M).cls idx ci j false .int) (hk : sk[k]? = some (.inr (ci, fl))) (hj : fl[j]? = some none) (d : decode (zb M) pc = .ok (.putfield idx, 3)) (kk : zV M X sk (zc S k (upd (S k) j x)) L cn (pc + 3) lv st post) : zV M X sk S L cn pc lv (.int x :: .ref k :: st) post := zi_putv hf hk hj rfl rfl d kk
/-- a final field, in its constructor -/
theorem zi_putr {idx ci j k r : Nat} {t : FieldType} {fl : List (Option (Option Nat))} (hf : zfp (zy M).cls idx ci j true t) (hi : (zy M).name = "<init>") (hk : sk[k]? = some (.inr (ci, fl))) (hj : j < fl.length) (hnr : ∀ a, narrow t (.ref a) = .ref a) (hft : ∀ a, fits t (.ref a) = true) (d : decode (zb M) pc = .ok (.putfield idx, 3)) (kk : zV M X (sk.set k (.inr (ci, fl.set j (some (some r))))) S L cn (pc + 3) lv st post) : zV M X sk S L cn pc lv (.ref r :: .ref k :: st) post := by
  intro p l e s m args below meth c H locs A ad ad0 n0 D cs ls hX hn hP hD hS hl
  obtain ⟨C, T, N, ty, ⟨hc, hin, hty, hnm⟩, hN, hlk, hfin, hpd, hown⟩ := hf
  refine va_putF (D := D) (ci := ci) (v := .ref (ad r)) (ty := t) (C := C) (T := T) (N := N) hX.1.1 hX.1.2.1 hX.1.2.2.2.2.2.1 hin ty hty hnm hX.1.2.2.2.2.1 hX.2.1.1 hP hD hS k (zw_get hk) hc j hN (hX.1.2.2.2.2.2.1 _ hlk) (fun _ h9 => h9) hfin (hX.1.2.2.2.2.2.2.1.trans hi) (hown rfl) hpd (hnr _) (hft _) (by simp; exact hj) d (fun H locs hP hD hS => ?_)
  have e1 : (zw ad cs sk S L).set k (ad k, .inr (ci, (fl.mapIdx (zf ad S k)).set j (.ref (ad r)))) = zw ad cs (sk.set k (.inr (ci, fl.set j (some (some r))))) S L := by
    rw [zf_setR hj]
    exact zw_set (c' := .inr (ci, fl.set j (some (some r)))) hk (fun _ _ => rfl) (fun _ _ => rfl)
  rw [e1] at hP hD
  exact kk p l e s m args below meth c H locs A ad ad0 n0 D cs ls hX ⟨by rw [List.length_set]; exact hn.1, hn.2⟩ hP hD hS hl
/-! arrays -/
theorem zi_iald {k n : Nat} {i : Int32} (hk : sk[k]? = some (.inl (0, n))) (hi : vp_in i n) (d : decode (zb M) pc = .ok (.iaload, 1)) (kk : zV M X sk S L cn (pc + 1) lv (.int (S k i.toNatClampNeg) :: st) post) : zV M X sk S L cn pc lv (.int i :: .ref k :: st) post := by
  intro p l e s m args below meth c H locs A ad ad0 n0 D cs ls hX hn hP hD hS hl
  exact va_iald (f := S k) hX.1.1 hX.1.2.1 hX.2.1.1 hP k 0 (zw_get hk) rfl hi d (kk p l e s m args below meth c H locs A ad ad0 n0 D cs ls hX hn hP hD hS hl)
theorem zi_lald {k n : Nat} {i : Int32} (hk : sk[k]? = some (.inl (1, n))) (hi : vp_in i n) (d : decode (zb M) pc = .ok (.laload, 1)) (kk : zV M X sk S L cn (pc + 1) lv (.long (L k i.toNatClampNeg) :: st) post) : zV M X sk S L cn pc lv (.int i :: .ref k :: st) post := by
  intro p l e s m args below meth c H locs A ad ad0 n0 D cs ls hX hn hP hD hS hl
  exact va_lald (f := L k) hX.1.1 hX.1.2.1 hX.2.1.1 hP k 1 (zw_get hk) rfl hi d (kk p l e s m args below meth c H locs A ad ad0 n0 D cs ls hX hn hP hD hS hl)
theorem zi_zald {k n : Nat} {i : Int32} (hk : sk[k]? = some (.inl (2, n))) (hi : vp_in i n) (d : decode (zb M) pc = .ok (.baload, 1)) (kk : zV M X sk S L cn (pc + 1) lv (.int (S k i.toNatClampNeg) :: st) post) : zV M X sk S L cn pc lv (.int i :: .ref k :: st) post := by
  intro p l e s m args below meth c H locs A ad ad0 n0 D cs ls hX hn hP hD hS hl
  exact va_zald (f := S k) hX.1.1 hX.1.2.1 hX.2.1.1 hP k 2 (zw_get hk) rfl hi d (kk p l e s m args below meth c H locs A ad ad0 n0 D cs ls hX hn hP hD hS hl)
theorem zi_iast {k n : Nat} {i x : Int32} (hk : sk[k]? = some (.inl (0, n))) (hi : vp_in i n) (d : decode (zb M) pc = .ok (.iastore, 1)) (kk : zV M X sk (zc S k (upd (S k) i.toNatClampNeg x)) L cn (pc + 1) lv st post) : zV M X sk S L cn pc lv (.int x :: .int i :: .ref k :: st) post := by
  intro p l e s m args below meth c H locs A ad ad0 n0 D cs ls hX hn hP hD hS hl
  refine va_iast (f := S k) hX.1.1 hX.1.2.1 hX.2.1.1 hP hD hS k 0 (zw_get hk) rfl hi d (fun H locs hP hD hS => ?_)
  have e1 : (zw ad cs sk S L).set k (ad k, .inl (cs.1, n, .inl (upd (S k) i.toNatClampNeg x))) = zw ad cs sk (zc S k (upd (S k) i.toNatClampNeg x)) L := by
    rw [← zw_set1 (S' := zc S k (upd (S k) i.toNatClampNeg x)) (L' := L) hk (fun i hi => zc_ne _ _ hi) (fun _ _ => rfl)]
    simp only [ze, zc_eq]
  rw [e1] at hP hD
  exact kk p l e s m args below meth c H locs A ad ad0 n0 D cs ls hX hn hP hD hS hl
theorem zi_zast {k n : Nat} {i x : Int32} (hk : sk[k]? = some (.inl (2, n))) (hi : vp_in i n) (d : decode (zb M) pc = .ok (.bastore, 1)) (kk : zV M X sk (zc S k (upd (S k) i.toNatClampNeg (vp_nar .boolean x))) L cn (pc + 1) lv st post) : zV M X sk S L cn pc lv (.int x :: .int i :: .ref k :: st) post := by
  intro p l e s m args below meth c H locs A ad ad0 n0 D cs ls hX hn hP hD hS hl
  refine va_zast (f := S k) hX.1.1 hX.1.2.1 hX.2.1.1 hP hD hS k 2 (zw_get hk) rfl hi d (fun H locs hP hD hS => ?_)
  have e1 : (zw ad cs sk S L).set k (ad k, .inl (cs.2.2, n, .inl (upd (S k) i.toNatClampNeg (vp_nar .boolean x)))) = zw ad cs sk (zc S k (upd (S k) i.toNatClampNeg (vp_nar .boolean x))) L := by
    rw [← zw_set1 (S' := zc S k (upd (S k) i.toNatClampNeg (vp_nar .boolean x))) (L' := L) hk (fun i hi => zc_ne _ _ hi) (fun _ _ => rfl)]
    simp only [ze, zc_eq]
  rw [e1] at hP hD
  exact kk p l e s m args below meth c H locs A ad ad0 n0 D cs ls hX hn hP hD hS hl
theorem zi_last {k n : Nat} {i : Int32} {x : Int64} (hk : sk[k]? = some (.inl (1, n))) (hi : vp_in i n) (d : decode (zb M) pc = .ok (.lastore, 1)) (kk : zV M X sk S (zc L k (vp_updL (L k) i.toNatClampNeg x)) cn (pc + 1) lv st post) : zV M X sk S L cn pc lv (.long x :: .int i :: .ref k :: st) post := by
  intro p l e s m args below meth c H locs A ad ad0 n0 D cs ls hX hn hP hD hS hl
  refine va_last (f := L k) hX.1.1 hX.1.2.1 hX.2.1.1 hP hD hS k 1 (zw_get hk) rfl hi d (fun H locs hP hD hS => ?_)
  have e1 : (zw ad cs sk S L).set k (ad k, .inl (cs.2.1, n, .inr (.inl (vp_updL (L k) i.toNatClampNeg x)))) = zw ad cs sk S (zc L k (vp_updL (L k) i.toNatClampNeg x)) := by
    rw [← zw_set1 (S' := S) (L' := zc L k (vp_updL (L k) i.toNatClampNeg x)) hk (fun _ _ => rfl) (fun i hi => zc_ne _ _ hi)]
    simp only [ze, zc_eq]
  rw [e1] at hP hD
  exact kk p l e s m args below meth c H locs A ad ad0 n0 D cs ls hX hn hP hD hS hl
theorem zi_alen {k t n : Nat} {v : Int32} (hk : sk[k]? = some (.inl (t, n))) (hv : Int32.ofNat n = v) (d : decode (zb M) pc = .ok (.arraylength, 1)) (kk : zV M X sk S L cn (pc + 1) lv (.int v :: st) post) : zV M X sk S L cn pc lv (.ref k :: st) post := by
  intro p l e s m args below meth c H locs A ad ad0 n0 D cs ls hX hn hP hD hS hl
  have h1 := kk p l e s m args below meth c H locs A ad ad0 n0 D cs ls hX hn hP hD hS hl
  have hg := zw_get (ad := ad) (cs := cs) (S := S) (L := L) hk
  match t, hg with
  | 0, hg => exact va_alen hX.1.1 hX.1.2.1 hX.2.1.1 hP k 0 hg rfl hv d h1
  | 1, hg => exact va_alen hX.1.1 hX.1.2.1 hX.2.1.1 hP k 1 hg rfl hv d h1
  | _ + 2, hg => exact va_alen hX.1.1 hX.1.2.1 hX.2.1.1 hP k 2 hg rfl hv d h1
end ZF
end
section
/-! CALLS -/
theorem zgood {N : zM} (hc : Cond.code (zy N) (zb N) (zn N) (zr N) ∈ zTB) : GoodIn zTB (zws N) := by
  intro w hw
  rcases List.mem_cons.mp hw with h | h
  · subst h
    exact ⟨hc, good_of_word (zTB_good _ hc)⟩
  · exact ⟨h, good_of_word (zTB_good _ h)⟩
theorem zA_in {A : Nat → Prop} {ws : va_W} {H0 H : Heap} {locs : List Loc} (hD : va_D A ws) (hS : va_S A H0 H locs) (hA : ∀ q, H0.size ≤ q → A q) : ∀ q, va_A ws H.size q → A q := by
  intro q h
  rcases h with ⟨k, e, h⟩ | h
  · exact hD.2 k _ h
  · exact hA q (Nat.le_trans hS.1 h)
/-- the start of a call, in the caller's state -/
theorem zPc_of {M : zM} {X : Nat × (Nat → Int32)} {p : Program} {s : State} {m : MethodId} {args : Array Value} {meth : Method} {c : Code} {A : Nat → Prop} {ad : Nat → Nat} {D : va_G} {cs : zA} {sk : List zK} {S : zS} {L : zL} {H : Heap} {locs : List Loc} {av : List Value}
    (hX : zX M X p s m args meth c A ad D cs) (hP : va_P D vwCl (zw ad cs sk S L) H) (hD : va_D A (zw ad cs sk S L)) (hS : va_S A s.heap H locs) : ∀ U : State, U.heap = H → s.WarmedH U.vm → zPc ad D cs H.size sk S L av (av.map (zv ad)).toArray U := by
  intro U hU hW
  subst hU
  exact ⟨rfl, rfl, hP, hD.weaken (fun _ _ _ _ => trivial), va_K.moved hW.alike hX.2.1.1, hX.2.2.1.go hW hS.2.1 (zA_in hD hS hX.2.1.2)⟩
section ZB
variable {p : Program} {l : Launch} {e : Env} {R : Room} {s : State} {m : MethodId} {args : Array Value} {below : List Frame} {meth : Method} {c : Code} {H : Heap} {locs : List Loc} {cells slots : Nat} {Q : State → Prop}
theorem z_back {pc : Nat} {ls : Array Slot} {rest st0 : List Value} {a : Array Value} {A A1 : Nat → Prop} {mc ms n0 : Nat} {ad0 : Nat → Nat} {D : va_G} {cs : zA} {post1 : zP}
    (hr : va_Run p l e R s m args below meth c H locs cells slots mc ms (F0 m pc ls st0) rest (zQ n0 ad0 A1 D cs post1 a) A1) (hS : va_S A s.heap H locs) (hA : ∀ q, A1 q → A q)
    (kk : ∀ (r : Option Value) (sk : List zK) (S : zS) (L : zL) (ad : Nat → Nat) (H1 : Heap) (locs1 : List Loc), post1 r sk S L → n0 ≤ sk.length → zag n0 ad0 ad → va_P D vwCl (zw ad cs sk S L) H1 → va_D A (zw ad cs sk S L) → va_S A s.heap H1 locs1 →
      W p l e R s m args below meth c H1 locs1 (cells + mc) (slots + ms) Q (F0 m (pc + 3) ls ((r.map (zv ad)).toList ++ rest))) : W p l e R s m args below meth c H locs cells slots Q (F0 m pc ls st0) := by
  intro T hT X
  obtain ⟨v, st₀, t, T', L9, h0, X', hL, e1, e2, ⟨⟨r, sk, S, L, ad, hv, hp, hn, hag, hP1, hD1⟩, hz, hk⟩, st⟩ := hr T hT X
  cases hv
  rw [h0] at hz hk
  obtain ⟨t2, a1, b1⟩ := kk r sk S L ad T'.heap (locs ++ L9) hp hn hag (by rw [e1]; exact hP1) (hD1.weaken (fun _ _ _ h => hA _ h))
    ⟨Nat.le_trans hS.1 (by rw [e1]; exact hz), fun q h1 h2 => by rw [e1, hk q (Nat.lt_of_lt_of_le h1 hS.1) (fun z => h2 (hA q z))]; exact hS.2.1 q h1 h2, fun q hq => by
      rcases List.mem_append.mp hq with h | h
      · exact hS.2.2 q h
      · exact hA _ (hL q h)⟩ T' rfl X'
  exact ⟨t2, st t2 a1, b1⟩
end ZB
/-- the entry idx of the class own is the method N, of n parameters -/
def zlk (own : String) (idx : Nat) (N : zM) (n : Nat) : Prop :=
  Cond.methodLink own idx (zy N) ∈ zTB ∧ Cond.code (zy N) (zb N) (zn N) (zr N) ∈ zTB ∧ Cond.initialized (zy N).cls ∈ zTB ∧ (zy N).cls ≠ "java/lang/invoke/MethodHandle" ∧ (zy N).cls ≠ "java/lang/invoke/VarHandle" ∧ (parseMethodDescriptor (zy N).desc).map (fun d => d.parameters.length) = some n
def zlV (own : String) (idx : Nat) (N : zM) (n : Nat) : Prop := zlk own idx N n ∧ Cond.instanceMethod (zy N) ∈ zTB ∧ Cond.selects (zy N).cls (zy N) (zy N) ∈ zTB
def zlS (own : String) (idx : Nat) (N : zM) (n : Nat) : Prop := zlk own idx N n ∧ Cond.static (zy N) ∈ zTB
def zlI (own : String) (idx : Nat) (N : zM) (n : Nat) : Prop := zlk own idx N n ∧ (zy N).name = "<init>" ∧ zr N = none ∧ Cond.instanceMethod (zy N) ∈ zTB
def zlN (own : String) (idx : Nat) (N : zM) (n : Nat) : Prop := (∃ q ∈ zNw, q.1 = own ∧ q.2.1 = idx ∧ q.2.2.1 = zy N) ∧ (zy N).name = "<init>" ∧ zr N = none ∧ Cond.instanceMethod (zy N) ∈ zTB ∧ Cond.code (zy N) (zb N) (zn N) (zr N) ∈ zTB ∧ Cond.initialized (zy N).cls ∈ zTB ∧ (zy N).cls ≠ "java/lang/invoke/MethodHandle" ∧ (zy N).cls ≠ "java/lang/invoke/VarHandle" ∧ (parseMethodDescriptor (zy N).desc).map (fun d => d.parameters.length) = some n
def zrm (M N : zM) : Prop := (zm N).frames + 1 ≤ (zm M).frames ∧ 8 + (zn N + 11) + (zm N).locals ≤ (zm M).locals
theorem zcb {M N : zM} {own : String} {idx n : Nat} {s : State} {args : Array Value} (hts : ∀ w ∈ zTB, w.before args s = true) (h : zlk own idx N n) (hR : zrm M N) : CallB (zm M) s args own idx (zy N) (zb N) (zn N) (zr N) (zws N) (zm N) (zm N).cells (zm N).slots n := by
  obtain ⟨h1, h2, h3, h4⟩ := h
  exact callB_of n hts (zgood h2) rfl rfl rfl (hts _ h3) (hts _ h1) h4 hR
section ZC
variable {M N : zM} {X : Nat × (Nat → Int32)} {sk : List zK} {S : zS} {L : zL} {cn : Nat × Nat} {pc : Nat} {lv : List (Option Value)} {st : List Value} {post post1 : zP} {idx n b n9 : Nat} {As : List Value}
/-- behind a call -/
theorem zgo {p : Program} {l : Launch} {e : Env} {s : State} {m : MethodId} {args : Array Value} {below : List Frame} {meth : Method} {c : Code} {H : Heap} {locs : List Loc} {A : Nat → Prop} {ad ad0 : Nat → Nat} {n0 : Nat} {D : va_G} {cs : zA} {ls : Array Slot} {a : Array Value} {st0 : List Value}
    (hX : zX M X p s m args meth c A ad D cs) (hn : n0 ≤ sk.length ∧ zag n0 ad0 ad) (hP : va_P D vwCl (zw ad cs sk S L) H) (hD : va_D A (zw ad cs sk S L)) (hS : va_S A s.heap H locs) (hl : lv_has ls (zn M) (zlv ad lv))
    (hok : n9 ≤ sk.length ∧ zokL n9 lv = true ∧ st.all (zok n9) = true)
    (kk : ∀ (r : Option Value) (sk' : List zK) (S' : zS) (L' : zL), sk.length ≤ sk'.length → post1 r sk' S' L' → zV M X sk' S' L' (cn.1 + (zm N).cells, cn.2 + (zm N).slots) (pc + 3) lv (r.toList ++ st) post)
    (hr : va_Run p l e (zm M) s m args below meth c H locs cn.1 cn.2 (zm N).cells (zm N).slots (F0 m pc ls st0) (st.map (zv ad)) (zQ sk.length ad (va_A (zw ad cs sk S L) H.size) D cs post1 a) (va_A (zw ad cs sk S L) H.size)) :
    W p l e (zm M) s m args below meth c H locs cn.1 cn.2 (MQ below (zQ n0 ad0 A D cs post) args s (zm M).cells (zm M).slots A) (F0 m pc ls st0) := by
  refine z_back hr hS (zA_in hD hS hX.2.1.2) (fun r sk' S' L' ad' H1 locs1 hp hle hag hP1 hD1 hS1 => ?_)
  have hag9 : zag n9 ad ad' := fun k hk => hag k (hk.imp (fun h => Nat.lt_of_lt_of_le h hok.1) id)
  have e1 : st.map (zv ad) = st.map (zv ad') := (zok_map hag9 hok.2.2).symm
  have e2 : (r.map (zv ad')).toList ++ st.map (zv ad) = (r.toList ++ st).map (zv ad') := by
    rw [e1, List.map_append]
    cases r <;> rfl
  rw [e2]
  obtain ⟨x1, x2, x3, x4⟩ := hX
  refine kk r sk' S' L' hle hp p l e s m args below meth c H1 locs1 A ad' ad0 n0 D cs ls ⟨x1, x2, x3.ag hag9, fun h => ?_⟩ ⟨Nat.le_trans hn.1 hle, hn.2.trans hag hn.1⟩ hP1 hD1 hS1 (zlv_sub hl (zok_mapL hag9 hok.2.1))
  rw [hag 999 (Or.inr (by omega))]
  exact x4 h
theorem zi_callV (d : decode (zb M) pc = .ok (.invokevirtual idx, 3)) (hlk : zlV (zy M).cls idx N n) {ci : Nat} {fl : List (Option (Option Nat))} (hb : sk[b]? = some (.inr (ci, fl))) (hci : (vwCl[ci]?).map (fun q => q.1) = some (zy N).cls) (hR : zrm M N) (hn9 : As.length = n) (hcn : cn.1 + (zm N).cells ≤ (zm M).cells ∧ cn.2 + (zm N).slots ≤ (zm M).slots) (hst : (st.map fun v => v.category).sum ≤ 8) (hok : n9 ≤ sk.length ∧ zokL n9 lv = true ∧ st.all (zok n9) = true)
    (hc : zCall N sk S L (.ref b :: As) post1) (kk : ∀ (r : Option Value) (sk' : List zK) (S' : zS) (L' : zL), sk.length ≤ sk'.length → post1 r sk' S' L' → zV M X sk' S' L' (cn.1 + (zm N).cells, cn.2 + (zm N).slots) (pc + 3) lv (r.toList ++ st) post) : zV M X sk S L cn pc lv (As.reverse ++ .ref b :: st) post := by
  intro p l e s m args below meth c H locs A ad ad0 n0 D cs ls hX hn hP hD hS hl
  obtain ⟨q9, hq9, hcl⟩ := Option.map_eq_some_iff.mp hci
  have hts := hX.1.2.2.2.2.2.1
  refine zgo (n9 := n9) (a := (Value.ref (ad b) :: As.map (zv ad)).toArray) hX hn hP hD hS hl hok kk ?_
  refine va_runV (As := As.map (zv ad)) (C := (zy N).cls) (b := ad b) ⟨hX.1.1, hX.1.2.1, hX.1.2.2.2.1, hX.1.2.2.2.2.1, hts⟩ (hc l ad D cs H.size) ⟨zcb hts hlk.1 hR, hts _ hlk.2.1, hts _ hlk.2.2⟩ ⟨zPc_blind, ?_, zPc_of (av := .ref b :: As) hX hP hD hS⟩ rfl (by rw [List.length_map]; exact hn9) hl.1 (by simp [zv]) (lv_room (by rw [zv_cats]; exact hst)) d hcn
  rw [← hcl]
  exact va_recv hX.2.1.1 hP hq9 (zw_get hb)
/-- a String constant's method -/
theorem zi_callT {i : Nat} (d : decode (zb M) pc = .ok (.invokevirtual idx, 3)) (hlk : zlV (zy M).cls idx N n) (hi : i < zSn) (hci : (zy N).cls = "java/lang/String") (hR : zrm M N) (hn9 : As.length = n) (hcn : cn.1 + (zm N).cells ≤ (zm M).cells ∧ cn.2 + (zm N).slots ≤ (zm M).slots) (hst : (st.map fun v => v.category).sum ≤ 8) (hok : n9 ≤ sk.length ∧ zokL n9 lv = true ∧ st.all (zok n9) = true)
    (hc : zCall N sk S L (.ref (1000 + i) :: As) post1) (kk : ∀ (r : Option Value) (sk' : List zK) (S' : zS) (L' : zL), sk.length ≤ sk'.length → post1 r sk' S' L' → zV M X sk' S' L' (cn.1 + (zm N).cells, cn.2 + (zm N).slots) (pc + 3) lv (r.toList ++ st) post) : zV M X sk S L cn pc lv (As.reverse ++ .ref (1000 + i) :: st) post := by
  intro p l e s m args below meth c H locs A ad ad0 n0 D cs ls hX hn hP hD hS hl
  have hts := hX.1.2.2.2.2.2.1
  refine zgo (n9 := n9) (a := (Value.ref (ad (1000 + i)) :: As.map (zv ad)).toArray) hX hn hP hD hS hl hok kk ?_
  refine va_runV (As := As.map (zv ad)) (C := (zy N).cls) (b := ad (1000 + i)) ⟨hX.1.1, hX.1.2.1, hX.1.2.2.2.1, hX.1.2.2.2.2.1, hts⟩ (hc l ad D cs H.size) ⟨zcb hts hlk.1 hR, hts _ hlk.2.1, hts _ hlk.2.2⟩ ⟨zPc_blind, ?_, zPc_of (av := .ref (1000 + i) :: As) hX hP hD hS⟩ rfl (by rw [List.length_map]; exact hn9) hl.1 (by simp [zv]) (lv_room (by rw [zv_cats]; exact hst)) d hcn
  rw [hci]
  exact vk_recv (adK := fun i => ad (1000 + i)) (i := i) hX.2.2.1.1 hi hS
theorem zi_callS (d : decode (zb M) pc = .ok (.invokestatic idx, 3)) (hlk : zlS (zy M).cls idx N n) (hR : zrm M N) (hn9 : As.length = n) (hcn : cn.1 + (zm N).cells ≤ (zm M).cells ∧ cn.2 + (zm N).slots ≤ (zm M).slots) (hst : (st.map fun v => v.category).sum ≤ 8) (hok : n9 ≤ sk.length ∧ zokL n9 lv = true ∧ st.all (zok n9) = true)
    (hc : zCall N sk S L As post1) (kk : ∀ (r : Option Value) (sk' : List zK) (S' : zS) (L' : zL), sk.length ≤ sk'.length → post1 r sk' S' L' → zV M X sk' S' L' (cn.1 + (zm N).cells, cn.2 + (zm N).slots) (pc + 3) lv (r.toList ++ st) post) : zV M X sk S L cn pc lv (As.reverse ++ st) post := by
  intro p l e s m args below meth c H locs A ad ad0 n0 D cs ls hX hn hP hD hS hl
  have hts := hX.1.2.2.2.2.2.1
  refine zgo (n9 := n9) (a := (As.map (zv ad)).toArray) hX hn hP hD hS hl hok kk ?_
  exact va_runS (As := As.map (zv ad)) ⟨hX.1.1, hX.1.2.1, hX.1.2.2.2.1, hX.1.2.2.2.2.1, hts⟩ (hc l ad D cs H.size) ⟨zcb hts hlk.1 hR, hts _ hlk.2⟩ ⟨zPc_blind, zPc_of (av := As) hX hP hD hS⟩ rfl (by rw [List.length_map]; exact hn9) hl.1 (by simp) (lv_room (by rw [zv_cats]; exact hst)) d hcn
theorem zi_callI (d : decode (zb M) pc = .ok (.invokespecial idx, 3)) (hlk : zlI (zy M).cls idx N n) (hR : zrm M N) (hn9 : As.length = n) (hcn : cn.1 + (zm N).cells ≤ (zm M).cells ∧ cn.2 + (zm N).slots ≤ (zm M).slots) (hst : (st.map fun v => v.category).sum ≤ 8) (hok : n9 ≤ sk.length ∧ zokL n9 lv = true ∧ st.all (zok n9) = true)
    (hc : zCall N sk S L (.ref b :: As) post1) (kk : ∀ (r : Option Value) (sk' : List zK) (S' : zS) (L' : zL), sk.length ≤ sk'.length → post1 r sk' S' L' → zV M X sk' S' L' (cn.1 + (zm N).cells, cn.2 + (zm N).slots) (pc + 3) lv (r.toList ++ st) post) : zV M X sk S L cn pc lv (As.reverse ++ .ref b :: st) post := by
  intro p l e s m args below meth c H locs A ad ad0 n0 D cs ls hX hn hP hD hS hl
  have hts := hX.1.2.2.2.2.2.1
  refine zgo (n9 := n9) (a := (Value.ref (ad b) :: As.map (zv ad)).toArray) hX hn hP hD hS hl hok kk ?_
  have hcb := zcb hts hlk.1 hR
  rw [hlk.2.2.1] at hcb
  exact va_runI (As := As.map (zv ad)) (b := ad b) ⟨hX.1.1, hX.1.2.1, hX.1.2.2.2.1, hX.1.2.2.2.2.1, hts⟩ (hc l ad D cs H.size) ⟨hcb, hlk.2.1, hts _ hlk.2.2.2⟩ ⟨zPc_blind, zPc_of (av := .ref b :: As) hX hP hD hS⟩ rfl (by rw [List.length_map]; exact hn9) hl.1 (by simp [zv]) (lv_room (by rw [zv_cats]; exact hst)) d hcn
theorem zi_callN (d : decode (zb M) pc = .ok (.invokespecial idx, 3)) (hlk : zlN (zy M).cls idx N n) (hR : zrm M N) (hn9 : As.length = n) (hcn : cn.1 + (zm N).cells ≤ (zm M).cells ∧ cn.2 + (zm N).slots ≤ (zm M).slots) (hst : (st.map fun v => v.category).sum ≤ 8) (hok : n9 ≤ sk.length ∧ zokL n9 lv = true ∧ st.all (zok n9) = true)
    (hc : zCall N sk S L (.ref b :: As) post1) (kk : ∀ (r : Option Value) (sk' : List zK) (S' : zS) (L' : zL), sk.length ≤ sk'.length → post1 r sk' S' L' → zV M X sk' S' L' (cn.1 + (zm N).cells, cn.2 + (zm N).slots) (pc + 3) lv (r.toList ++ st) post) : zV M X sk S L cn pc lv (As.reverse ++ .ref b :: st) post := by
  intro p l e s m args below meth c H locs A ad ad0 n0 D cs ls hX hn hP hD hS hl
  have hts := hX.1.2.2.2.2.2.1
  refine zgo (n9 := n9) (a := (Value.ref (ad b) :: As.map (zv ad)).toArray) hX hn hP hD hS hl hok kk ?_
  obtain ⟨⟨q, hq, rfl2, rfl3, hqy⟩, hi, hr, hin, hcd, hini, hd9⟩ := hlk
  have hnw := hX.2.2.1.2.2.2 q hq
  rw [rfl2, rfl3, hqy] at hnw
  have hcb : va_CN (zm M) s args (zy M).cls idx (zy N) q.2.2.2 (zb N) (zn N) (zr N) (zws N) (zm N) (zm N).cells (zm N).slots n := va_cnB n hts (zgood hcd) rfl rfl rfl hnw (hts _ hini) hd9 hR
  rw [hr] at hcb
  exact va_runIN (As := As.map (zv ad)) (b := ad b) ⟨hX.1.1, hX.1.2.1, hX.1.2.2.2.1, hX.1.2.2.2.2.1, hts⟩ (hc l ad D cs H.size) ⟨hcb, hi, hts _ hin⟩ ⟨zPc_blind, zPc_of (av := .ref b :: As) hX hP hD hS⟩ rfl (by rw [List.length_map]; exact hn9) hl.1 (by simp [zv]) (lv_room (by rw [zv_cats]; exact hst)) d hcn
end ZC
end
section
/-! NEW CELLS, THE LIBRARY'S OWN, TEXTS, THE SCRIPT -/
theorem zw_push {ad : Nat → Nat} {cs : zA} {sk : List zK} {S S' : zS} {L L' : zL} {q : Nat} {c : zK} (hok : sk.all (fun c => match c with | .inl _ => true | .inr o => o.2.all (fun f => match f with | some (some r) => decide (r < sk.length) || decide (900 ≤ r) | _ => true)) = true) (hb : sk.length < 900) (hS : ∀ i, i < sk.length → S' i = S i) (hL : ∀ i, i < sk.length → L' i = L i) : zw (zc ad sk.length q) cs (sk ++ [c]) S' L' = zw ad cs sk S L ++ [(q, ze (zc ad sk.length q) cs S' L' sk.length c)] := by
  apply List.ext_getElem?
  intro i
  by_cases hi : i < sk.length
  · rw [List.getElem?_append_left (by simp [zw]; exact hi)]
    simp only [zw, List.getElem?_mapIdx, List.getElem?_append_left hi]
    cases hc : sk[i]? with
    | none => rfl
    | some x =>
      have hx := List.all_eq_true.mp hok x (List.mem_of_getElem? hc)
      have e0 : zc ad sk.length q i = ad i := zc_ne _ _ (Nat.ne_of_lt hi)
      have e1 : ze (zc ad sk.length q) cs S' L' i x = ze ad cs S L i x := by
        rw [ze_congr (hS i hi) (hL i hi)]
        match x, hx with
        | .inl (0, n), _ => rfl
        | .inl (1, n), _ => rfl
        | .inl (_ + 2, n), _ => rfl
        | .inr (ci, fl), hx =>
          simp only [ze]
          congr 2
          apply List.ext_getElem?
          intro j
          simp only [List.getElem?_mapIdx]
          cases hf : fl[j]? with
          | none => rfl
          | some f =>
            have hf2 := List.all_eq_true.mp hx f (List.mem_of_getElem? hf)
            match f, hf2 with
            | none, _ => rfl
            | some none, _ => rfl
            | some (some r), h =>
              have : r ≠ sk.length := by
                intro e
                subst e
                simp at h
                omega
              simp [zf, zc_ne _ _ this]
      simp [e0, e1]
  · by_cases h2 : i = sk.length
    · subst h2
      rw [List.getElem?_append_right (by simp [zw])]
      simp [zw, List.getElem?_mapIdx, zc_eq]
    · rw [List.getElem?_eq_none (by simp [zw]; omega), List.getElem?_eq_none (by simp [zw]; omega)]
def zskok (sk : List zK) : Bool := sk.all (fun c => match c with | .inl _ => true | .inr o => o.2.all (fun f => match f with | some (some r) => decide (r < sk.length) || decide (900 ≤ r) | _ => true))
section ZN
variable {M : zM} {X : Nat × (Nat → Int32)} {sk : List zK} {S : zS} {L : zL} {cn : Nat × Nat} {pc : Nat} {lv : List (Option Value)} {st : List Value} {post : zP}
theorem zag_push {n0 : Nat} {ad0 ad : Nat → Nat} {q : Nat} (h : n0 ≤ sk.length ∧ zag n0 ad0 ad) (hb : sk.length < 900) : zag n0 ad0 (zc ad sk.length q) ∧ zag sk.length ad (zc ad sk.length q) := by
  have h1 : zag sk.length ad (zc ad sk.length q) := fun k hk => zc_ne _ _ (by rcases hk with hk | hk <;> omega)
  exact ⟨h.2.trans h1 h.1, h1⟩
def zfs0 (fl : List (Option (Option Nat))) : List Value := fl.map (fun f => match f with | none => Value.int 0 | some _ => .null)
def zfl0 (fl : List (Option (Option Nat))) : Bool := fl.all (fun f => match f with | some (some _) => false | _ => true)
theorem zfs0_eq {fl : List (Option (Option Nat))} (h : zfl0 fl = true) (ad : Nat → Nat) {S : zS} {k : Nat} (hS : S k = fun _ => 0) : fl.mapIdx (zf ad S k) = zfs0 fl := by
  apply List.ext_getElem?
  intro j
  simp only [zfs0, List.getElem?_mapIdx, List.getElem?_map]
  cases hf : fl[j]? with
  | none => rfl
  | some f =>
    have := List.all_eq_true.mp h f (List.mem_of_getElem? hf)
    match f, this with
    | none, _ => simp [zf, hS]
    | some none, _ => rfl
theorem zi_new {idx ci : Nat} {C : String} {T : u_T} {N : Nat} {ty : Nat → FieldType} {fl : List (Option (Option Nat))} (d : decode (zb M) pc = .ok (.new idx, 3)) (hcl : zcls ci C T N ty) (hlk : Cond.classLink (zy M).cls idx C ∈ zTB ∧ Cond.instantiable C N ∈ zTB ∧ Cond.initialized C ∈ zTB) (hfl : ∀ j, j < N → defaultValue (ty j) = vp_V (zfs0 fl) j) (hfl2 : zfl0 fl = true)
    (hcn : cn.1 + 1 ≤ (zm M).cells ∧ cn.2 + N ≤ (zm M).slots) (hok : zokL sk.length lv = true ∧ st.all (zok sk.length) = true) (hsk : zskok sk = true ∧ sk.length < 900) (kk : zV M X (sk ++ [.inr (ci, fl)]) (zc S sk.length (fun _ => 0)) L (cn.1 + 1, cn.2 + N) (pc + 3) lv (.ref sk.length :: st) post) : zV M X sk S L cn pc lv st post := by
  intro p l e s m args below meth c H locs A ad ad0 n0 D cs ls hX hn hP hD hS hl
  obtain ⟨hc, hin, hty, hnm⟩ := hcl
  have hts := hX.1.2.2.2.2.2.1
  refine va_new (D := D) (ci := ci) (fs := zfs0 fl) (C := C) (T := T) (N := N) hX.1.1 hX.1.2.1 hts hin ty hty hX.1.2.2.2.2.1 (hts _ hlk.1) (hts _ hlk.2.1) (hts _ hlk.2.2) hX.2.1.1 hP hD hS hX.2.1.2 hc hfl hcn.1 hcn.2 d (fun q H1 hP1 hD1 hS1 => ?_)
  have e1 : zw ad cs sk S L ++ [(q, .inr (ci, zfs0 fl))] = zw (zc ad sk.length q) cs (sk ++ [.inr (ci, fl)]) (zc S sk.length (fun _ => 0)) L := by
    rw [zw_push (S := S) (L := L) hsk.1 hsk.2 (fun i hi => zc_ne _ _ (Nat.ne_of_lt hi)) (fun _ _ => rfl)]
    simp only [ze]
    rw [zfs0_eq hfl2 _ (zc_eq _ _ _)]
  rw [e1] at hP1 hD1
  obtain ⟨ag1, ag2⟩ := zag_push (q := q) hn hsk.2
  obtain ⟨x1, x2, x3, x4⟩ := hX
  have h1 := kk p l e s m args below meth c H1 locs A (zc ad sk.length q) ad0 n0 D cs ls ⟨x1, x2, x3.ag ag2, fun h => by rw [ag2 999 (Or.inr (by omega))]; exact x4 h⟩ ⟨by simp; omega, ag1⟩ hP1 hD1 hS1 (zlv_sub hl (zok_mapL ag2 hok.1))
  rw [List.map_cons, zok_map ag2 hok.2] at h1
  simp only [zv, zc_eq] at h1
  exact h1
/-- a new array: 0 of ints, 1 of longs, 2 of booleans -/
def zat : Nat → ArrayType
  | 0 => .int
  | 1 => .long
  | _ + 2 => .boolean
def zcA (cs : zA) : Nat → ClassId
  | 0 => cs.1
  | 1 => cs.2.1
  | _ + 2 => cs.2.2
theorem zcs_eq {D : va_G} {s : State} {cs : zA} {cA : ClassId} {t : Nat} {tys : List (ClassId × FieldType)} (hK : va_K D vwCl (ztys cs) s) (hK2 : va_K D vwCl (tys ++ [(cA, newarray.typeOf (zat t))]) s) : cA = zcA cs t := by
  have h2 := (hK2.2 tys.length (cA, newarray.typeOf (zat t)) (by simp)).2
  match t, h2 with
  | 0, h2 => exact Option.some.inj (h2.symm.trans (hK.2 0 (cs.1, .int) rfl).2)
  | 1, h2 => exact Option.some.inj (h2.symm.trans (hK.2 1 (cs.2.1, .long) rfl).2)
  | _ + 2, h2 => exact Option.some.inj (h2.symm.trans (hK.2 2 (cs.2.2, .boolean) rfl).2)
theorem zi_newa {t N : Nat} {x : Int32} (d : decode (zb M) pc = .ok (.newarray (zat t), 2)) (harr : Cond.arrayClass (newarray.typeOf (zat t)) ∈ zTB) (hx : ¬ x < 0 ∧ x.toNatClampNeg = N ∧ N * 8 ≤ 536870912)
    (hcn : cn.1 + 1 ≤ (zm M).cells ∧ cn.2 + N ≤ (zm M).slots) (hok : zokL sk.length lv = true ∧ st.all (zok sk.length) = true) (hsk : zskok sk = true ∧ sk.length < 900) (kk : zV M X (sk ++ [.inl (t, N)]) (zc S sk.length (fun _ => 0)) (zc L sk.length (fun _ => 0)) (cn.1 + 1, cn.2 + N) (pc + 2) lv (.ref sk.length :: st) post) : zV M X sk S L cn pc lv (.int x :: st) post := by
  intro p l e s m args below meth c H locs A ad ad0 n0 D cs ls hX hn hP hD hS hl
  have hts := hX.1.2.2.2.2.2.1
  have key : ∀ (q : Nat) (H1 : Heap), va_P D vwCl (zw ad cs sk S L ++ [(q, ze (zc ad sk.length q) cs (zc S sk.length (fun _ => 0)) (zc L sk.length (fun _ => 0)) sk.length (.inl (t, N)))]) H1 → va_D A (zw ad cs sk S L ++ [(q, ze (zc ad sk.length q) cs (zc S sk.length (fun _ => 0)) (zc L sk.length (fun _ => 0)) sk.length (.inl (t, N)))]) → va_S A s.heap H1 locs →
      W p l e (zm M) s m args below meth c H1 locs (cn.1 + 1) (cn.2 + N) (MQ below (zQ n0 ad0 A D cs post) args s (zm M).cells (zm M).slots A) (F0 m (pc + 2) ls (.ref q :: st.map (zv ad))) := by
    intro q H1 hP1 hD1 hS1
    rw [← zw_push (S := S) (L := L) hsk.1 hsk.2 (fun i hi => zc_ne _ _ (Nat.ne_of_lt hi)) (fun i hi => zc_ne _ _ (Nat.ne_of_lt hi))] at hP1 hD1
    obtain ⟨ag1, ag2⟩ := zag_push (q := q) hn hsk.2
    obtain ⟨x1, x2, x3, x4⟩ := hX
    have h1 := kk p l e s m args below meth c H1 locs A (zc ad sk.length q) ad0 n0 D cs ls ⟨x1, x2, x3.ag ag2, fun h => by rw [ag2 999 (Or.inr (by omega))]; exact x4 h⟩ ⟨by simp; omega, ag1⟩ hP1 hD1 hS1 (zlv_sub hl (zok_mapL ag2 hok.1))
    rw [List.map_cons, zok_map ag2 hok.2] at h1
    simp only [zv, zc_eq] at h1
    exact h1
  match t, d, harr, key with
  | 0, d, harr, key =>
    refine va_newa (atype := .int) (a0 := (N, .inl (fun _ => 0))) hX.1.1 hX.1.2.1 (hts _ harr) rfl hX.2.1.1 hP hD hS hX.2.1.2 (fun _ => rfl) hx.1 hx.2.1 (by show N * 4 ≤ _; omega) hcn.1 hcn.2 d (fun q cA H1 hK1 hP1 hD1 hS1 => ?_)
    have e : cA = cs.1 := zcs_eq (t := 0) hX.2.1.1 hK1
    subst e
    exact key q H1 (by simp only [ze, zc_eq]; exact hP1) (by simp only [ze, zc_eq]; exact hD1) hS1
  | 1, d, harr, key =>
    refine va_newa (atype := .long) (a0 := (N, .inr (.inl (fun _ => 0)))) hX.1.1 hX.1.2.1 (hts _ harr) rfl hX.2.1.1 hP hD hS hX.2.1.2 (fun _ => rfl) hx.1 hx.2.1 (by show N * 8 ≤ _; omega) hcn.1 hcn.2 d (fun q cA H1 hK1 hP1 hD1 hS1 => ?_)
    have e : cA = cs.2.1 := zcs_eq (t := 1) hX.2.1.1 hK1
    subst e
    exact key q H1 (by simp only [ze, zc_eq]; exact hP1) (by simp only [ze, zc_eq]; exact hD1) hS1
  | t + 2, d, harr, key =>
    refine va_newa (atype := .boolean) (a0 := (N, .inl (fun _ => 0))) hX.1.1 hX.1.2.1 (hts _ harr) rfl hX.2.1.1 hP hD hS hX.2.1.2 (fun _ => rfl) hx.1 hx.2.1 (by show N * 1 ≤ _; omega) hcn.1 hcn.2 d (fun q cA H1 hK1 hP1 hD1 hS1 => ?_)
    have e : cA = cs.2.2 := zcs_eq (t := t + 2) hX.2.1.1 hK1
    subst e
    exact key q H1 (by simp only [ze, zc_eq]; exact hP1) (by simp only [ze, zc_eq]; exact hD1) hS1
/-! the library's own -/
theorem zi_objInit {idx b : Nat} (d : decode (zb M) pc = .ok (.invokespecial idx, 3)) (hlk : Cond.methodLink (zy M).cls idx Lib.objectInit ∈ zTB ∧ Cond.instanceMethod Lib.objectInit ∈ zTB ∧ Cond.code Lib.objectInit ⟨#[0xb1]⟩ 1 none ∈ zTB) (hR : 1 ≤ (zm M).frames) (hl2 : (st.map fun v => v.category).sum + 12 ≤ (zm M).locals) (kk : zV M X sk S L cn (pc + 3) lv st post) : zV M X sk S L cn pc lv (.ref b :: st) post := by
  intro p l e s m args below meth c H locs A ad ad0 n0 D cs ls hX hn hP hD hS hl
  have hts := hX.1.2.2.2.2.2.1
  exact W.objInit hX.1.1 hX.1.2.1 hX.1.2.2.2.2.1 (hts _ hlk.1) (hts _ hlk.2.1) (hts _ hlk.2.2) rfl (by rw [hX.1.2.2.2.1]; exact hl.1) rfl d hR (by rw [zv_cats]; show 2 * 0 + _ + 12 ≤ _; omega) (kk p l e s m args below meth c H locs A ad ad0 n0 D cs ls hX hn hP hD hS hl)
theorem zi_mmax {idx : Nat} {x y : Int32} (d : decode (zb M) pc = .ok (.invokestatic idx, 3)) (hlk : Cond.methodLink (zy M).cls idx Lib.Math.max.name ∈ zTB ∧ Cond.static Lib.Math.max.name ∈ zTB ∧ Cond.initialized "java/lang/Math" ∈ zTB ∧ Cond.code Lib.Math.max.name Lib.Math.max.code 2 (some .int) ∈ zTB) (hR : 1 ≤ (zm M).frames ∧ cn.1 ≤ (zm M).cells ∧ cn.2 ≤ (zm M).slots) (hl2 : (st.map fun v => v.category).sum + 13 ≤ (zm M).locals) (kk : zV M X sk S L cn (pc + 3) lv (.int (if x < y then y else x) :: st) post) : zV M X sk S L cn pc lv (.int y :: .int x :: st) post := by
  intro p l e s m args below meth c H locs A ad ad0 n0 D cs ls hX hn hP hD hS hl
  have hts := hX.1.2.2.2.2.2.1
  exact va_mmax hX.1.1 hX.1.2.1 (by rw [hX.1.2.2.2.1]; exact hl.1.symm) hX.1.2.2.2.2.1 (hts _ hlk.1) (hts _ hlk.2.1) (hts _ hlk.2.2.1) (hts _ hlk.2.2.2) hR.1 (by rw [zv_cats]; exact hl2) hR.2.1 hR.2.2 d (kk p l e s m args below meth c H locs A ad ad0 n0 D cs ls hX hn hP hD hS hl)
theorem zi_mmin {idx : Nat} {x y : Int32} (d : decode (zb M) pc = .ok (.invokestatic idx, 3)) (hlk : Cond.methodLink (zy M).cls idx Lib.Math.min.name ∈ zTB ∧ Cond.static Lib.Math.min.name ∈ zTB ∧ Cond.initialized "java/lang/Math" ∈ zTB ∧ Cond.code Lib.Math.min.name Lib.Math.min.code 2 (some .int) ∈ zTB) (hR : 1 ≤ (zm M).frames ∧ cn.1 ≤ (zm M).cells ∧ cn.2 ≤ (zm M).slots) (hl2 : (st.map fun v => v.category).sum + 13 ≤ (zm M).locals) (kk : zV M X sk S L cn (pc + 3) lv (.int (if y < x then y else x) :: st) post) : zV M X sk S L cn pc lv (.int y :: .int x :: st) post := by
  intro p l e s m args below meth c H locs A ad ad0 n0 D cs ls hX hn hP hD hS hl
  have hts := hX.1.2.2.2.2.2.1
  exact va_mmin hX.1.1 hX.1.2.1 (by rw [hX.1.2.2.2.1]; exact hl.1.symm) hX.1.2.2.2.2.1 (hts _ hlk.1) (hts _ hlk.2.1) (hts _ hlk.2.2.1) (hts _ hlk.2.2.2) hR.1 (by rw [zv_cats]; exact hl2) hR.2.1 hR.2.2 d (kk p l e s m args below meth c H locs A ad ad0 n0 D cs ls hX hn hP hD hS hl)
/-- System.arraycopy between arrays of ints -/
theorem zi_copyi {idx a b n1 n2 : Nat} {sp dp n : Int32} (d : decode (zb M) pc = .ok (.invokestatic idx, 3)) (hlk : Cond.methodLink (zy M).cls idx arraycopyName ∈ zTB ∧ Cond.native arraycopyName ∈ zTB ∧ Cond.static arraycopyName ∈ zTB ∧ Cond.initialized "java/lang/System" ∈ zTB) (hR : 1 ≤ (zm M).frames) (hl2 : (st.map fun v => v.category).sum + 18 ≤ (zm M).locals) (ha : sk[a]? = some (.inl (0, n1))) (hb : sk[b]? = some (.inl (0, n2)))
    (h : (¬ sp < 0 ∧ ¬ dp < 0 ∧ ¬ n < 0) ∧ sp.toNatClampNeg + n.toNatClampNeg ≤ n1 ∧ dp.toNatClampNeg + n.toNatClampNeg ≤ n2) (kk : zV M X sk (zc S b (va_cpy (S a) (S b) sp.toNatClampNeg dp.toNatClampNeg n.toNatClampNeg)) L cn (pc + 3) lv st post) : zV M X sk S L cn pc lv (.int n :: .int dp :: .ref b :: .int sp :: .ref a :: st) post := by
  intro p l e s m args below meth c H locs A ad ad0 n0 D cs ls hX hn hP hD hS hl
  have hts := hX.1.2.2.2.2.2.1
  refine va_copyi (f := S a) (g := S b) (ty := .int) hX.1.1 hX.1.2.1 (by rw [hX.1.2.2.2.1]; exact hl.1.symm) hX.1.2.2.2.2.1 (hts _ hlk.1) (hts _ hlk.2.1) (hts _ hlk.2.2.1) (hts _ hlk.2.2.2) hX.2.1.1 hP hD hS a b 0 0 (zw_get ha) (zw_get hb) rfl rfl rfl h.1.1 h.1.2.1 h.1.2.2 h.2.1 h.2.2 (fun _ _ => rfl) hR (by rw [zv_cats]; exact hl2) d (fun H locs hP hD hS => ?_)
  have e1 : (zw ad cs sk S L).set b (ad b, .inl (cs.1, n2, .inl (va_cpy (S a) (S b) sp.toNatClampNeg dp.toNatClampNeg n.toNatClampNeg))) = zw ad cs sk (zc S b (va_cpy (S a) (S b) sp.toNatClampNeg dp.toNatClampNeg n.toNatClampNeg)) L := by
    rw [← zw_set1 (S' := zc S b (va_cpy (S a) (S b) sp.toNatClampNeg dp.toNatClampNeg n.toNatClampNeg)) (L' := L) hb (fun i hi => zc_ne _ _ hi) (fun _ _ => rfl)]
    simp only [ze, zc_eq]
  rw [e1] at hP hD
  exact kk p l e s m args below meth c H locs A ad ad0 n0 D cs ls hX hn hP hD hS hl
/-! texts -/
theorem zi_tval {idx i : Nat} (hi : i < zSn) (d : decode (zb M) pc = .ok (.getfield idx, 3)) (hlk : Cond.fieldLink (zy M).cls idx "java/lang/String" "value" "[B" ∈ zTB) (kk : zV M X sk S L cn (pc + 3) lv (.ref (1100 + i) :: st) post) : zV M X sk S L cn pc lv (.ref (1000 + i) :: st) post := by
  intro p l e s m args below meth c H locs A ad ad0 n0 D cs ls hX hn hP hD hS hl
  have hts := hX.1.2.2.2.2.2.1
  exact vk_getf hX.1.1 hX.1.2.1 (hX.2.2.1.1.1 i hi).2.2.1 hS hX.1.2.2.2.2.1 (hts _ hlk) (fun _ h => h) d (kk p l e s m args below meth c H locs A ad ad0 n0 D cs ls hX hn hP hD hS hl)
theorem zi_tcod {idx i : Nat} (hi : i < zSn) (d : decode (zb M) pc = .ok (.getfield idx, 3)) (hlk : Cond.fieldLink (zy M).cls idx "java/lang/String" "coder" "B" ∈ zTB) (kk : zV M X sk S L cn (pc + 3) lv (.int 0 :: st) post) : zV M X sk S L cn pc lv (.ref (1000 + i) :: st) post := by
  intro p l e s m args below meth c H locs A ad ad0 n0 D cs ls hX hn hP hD hS hl
  have hts := hX.1.2.2.2.2.2.1
  exact vk_getf hX.1.1 hX.1.2.1 (hX.2.2.1.1.1 i hi).2.1 hS hX.1.2.2.2.2.1 (hts _ hlk) (fun _ h => h) d (kk p l e s m args below meth c H locs A ad ad0 n0 D cs ls hX hn hP hD hS hl)
theorem zi_tcmp {idx : Nat} (d : decode (zb M) pc = .ok (.getstatic idx, 3)) (hlk : Cond.fieldLink (zy M).cls idx "java/lang/String" "COMPACT_STRINGS" "Z" ∈ zTB) (kk : zV M X sk S L cn (pc + 3) lv (.int 1 :: st) post) : zV M X sk S L cn pc lv st post := by
  intro p l e s m args below meth c H locs A ad ad0 n0 D cs ls hX hn hP hD hS hl
  have hts := hX.1.2.2.2.2.2.1
  exact va_gets hX.1.1 hX.1.2.1 hX.2.2.1.2.2.1 hS hX.1.2.2.2.2.1 (hts _ hlk) (fun _ h => h) d (kk p l e s m args below meth c H locs A ad ad0 n0 D cs ls hX hn hP hD hS hl)
theorem zi_tlen {i : Nat} {v : Int32} (hi : i < zSn) (hv : Int32.ofNat (zSl.getD i 0) = v) (d : decode (zb M) pc = .ok (.arraylength, 1)) (kk : zV M X sk S L cn (pc + 1) lv (.int v :: st) post) : zV M X sk S L cn pc lv (.ref (1100 + i) :: st) post := by
  intro p l e s m args below meth c H locs A ad ad0 n0 D cs ls hX hn hP hD hS hl
  exact va_tlen hX.1.1 hX.1.2.1 (hX.2.2.1.1.1 i hi).2.2.2 hS hv d (kk p l e s m args below meth c H locs A ad ad0 n0 D cs ls hX hn hP hD hS hl)
theorem zi_tald {i : Nat} {j : Int32} (hi : i < zSn) (hj : vp_in j (zSl.getD i 0)) (d : decode (zb M) pc = .ok (.baload, 1)) (kk : zV M X sk S L cn (pc + 1) lv (.int ((zSb.getD i []).getD j.toNatClampNeg 0) :: st) post) : zV M X sk S L cn pc lv (.int j :: .ref (1100 + i) :: st) post := by
  intro p l e s m args below meth c H locs A ad ad0 n0 D cs ls hX hn hP hD hS hl
  exact va_tb hX.1.1 hX.1.2.1 (hX.2.2.1.1.1 i hi).2.2.2 hS hj rfl d (kk p l e s m args below meth c H locs A ad ad0 n0 D cs ls hX hn hP hD hS hl)
/-! the script -/
theorem zi_sld {i : Int32} (hm : (zy M).name = "law") (hi : vp_in i X.1) (d : decode (zb M) pc = .ok (.iaload, 1)) (kk : zV M X sk S L cn (pc + 1) lv (.int (X.2 i.toNatClampNeg) :: st) post) : zV M X sk S L cn pc lv (.int i :: .ref 999 :: st) post := by
  intro p l e s m args below meth c H locs A ad ad0 n0 D cs ls hX hn hP hD hS hl
  obtain ⟨q1, q2, q3⟩ := hX.2.2.2 hm
  exact va_sld hX.1.1 hX.1.2.1 q1 q2 q3 hS hi d (kk p l e s m args below meth c H locs A ad ad0 n0 D cs ls hX hn hP hD hS hl)
theorem zi_slen (hm : (zy M).name = "law") (d : decode (zb M) pc = .ok (.arraylength, 1)) (kk : zV M X sk S L cn (pc + 1) lv (.int (Int32.ofNat X.1) :: st) post) : zV M X sk S L cn pc lv (.ref 999 :: st) post := by
  intro p l e s m args below meth c H locs A ad ad0 n0 D cs ls hX hn hP hD hS hl
  obtain ⟨q1, q2, q3⟩ := hX.2.2.2 hm
  exact va_slen hX.1.1 hX.1.2.1 q1 q2 q3 hS d (kk p l e s m args below meth c H locs A ad ad0 n0 D cs ls hX hn hP hD hS hl)
end ZN
end
