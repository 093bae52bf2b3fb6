section
/-- a private method of a class that the tables say can be made, by its rows of tables_1 -/
def lw_okq (q : MethodName × Nat) : Prop := (q.1.cls ≠ "java/lang/invoke/MethodHandle" ∧ q.1.cls ≠ "java/lang/invoke/VarHandle") ∧ Cond.instantiable q.1.cls q.2 ∈ tables_1 ∧ Cond.privateMethod q.1 ∈ tables_1 ∧ Cond.instanceMethod q.1 ∈ tables_1
theorem lw_p0 : lw_okq (⟨"ShornSins", "textOf", "(I)LShornSins$Text;"⟩, 10) := ⟨⟨by decide +kernel, by decide +kernel⟩, List.mem_of_getElem? (i := 23) (by decide +kernel), List.mem_of_getElem? (i := 376) (by decide +kernel), List.mem_of_getElem? (i := 377) (by decide +kernel)⟩
theorem lw_p1 : lw_okq (⟨"ShornSins", "readTexts", "()V"⟩, 10) := ⟨⟨by decide +kernel, by decide +kernel⟩, List.mem_of_getElem? (i := 23) (by decide +kernel), List.mem_of_getElem? (i := 384) (by decide +kernel), List.mem_of_getElem? (i := 385) (by decide +kernel)⟩
theorem lw_p2 : lw_okq (⟨"ShornSins$Text", "meaningAt", "(I)I"⟩, 5) := ⟨⟨by decide +kernel, by decide +kernel⟩, List.mem_of_getElem? (i := 31) (by decide +kernel), List.mem_of_getElem? (i := 396) (by decide +kernel), List.mem_of_getElem? (i := 397) (by decide +kernel)⟩
theorem lw_p3 : lw_okq (⟨"ShornSins$Text", "signsAt", "(I)Ljava/lang/String;"⟩, 5) := ⟨⟨by decide +kernel, by decide +kernel⟩, List.mem_of_getElem? (i := 31) (by decide +kernel), List.mem_of_getElem? (i := 400) (by decide +kernel), List.mem_of_getElem? (i := 401) (by decide +kernel)⟩
theorem lw_p4 : lw_okq (⟨"ShornSins", "unsettle", "()V"⟩, 10) := ⟨⟨by decide +kernel, by decide +kernel⟩, List.mem_of_getElem? (i := 23) (by decide +kernel), List.mem_of_getElem? (i := 493) (by decide +kernel), List.mem_of_getElem? (i := 494) (by decide +kernel)⟩
theorem lw_p5 : lw_okq (⟨"ShornSins", "isPerson", "(I)Z"⟩, 10) := ⟨⟨by decide +kernel, by decide +kernel⟩, List.mem_of_getElem? (i := 23) (by decide +kernel), List.mem_of_getElem? (i := 526) (by decide +kernel), List.mem_of_getElem? (i := 527) (by decide +kernel)⟩
theorem lw_p6 : lw_okq (⟨"ShornSins", "isDeed", "(I)Z"⟩, 10) := ⟨⟨by decide +kernel, by decide +kernel⟩, List.mem_of_getElem? (i := 23) (by decide +kernel), List.mem_of_getElem? (i := 538) (by decide +kernel), List.mem_of_getElem? (i := 539) (by decide +kernel)⟩
theorem lw_p7 : lw_okq (⟨"ShornSins", "settle", "()V"⟩, 10) := ⟨⟨by decide +kernel, by decide +kernel⟩, List.mem_of_getElem? (i := 23) (by decide +kernel), List.mem_of_getElem? (i := 603) (by decide +kernel), List.mem_of_getElem? (i := 604) (by decide +kernel)⟩
theorem lw_p8 : lw_okq (⟨"ShornSins$Course", "begin", "()V"⟩, 6) := ⟨⟨by decide +kernel, by decide +kernel⟩, List.mem_of_getElem? (i := 148) (by decide +kernel), List.mem_of_getElem? (i := 611) (by decide +kernel), List.mem_of_getElem? (i := 612) (by decide +kernel)⟩
theorem lw_p9 : lw_okq (⟨"ShornSins$Course", "doDeeds", "(I)I"⟩, 6) := ⟨⟨by decide +kernel, by decide +kernel⟩, List.mem_of_getElem? (i := 148) (by decide +kernel), List.mem_of_getElem? (i := 619) (by decide +kernel), List.mem_of_getElem? (i := 620) (by decide +kernel)⟩
theorem lw_p10 : lw_okq (⟨"ShornSins$Course", "lives", "(I)Z"⟩, 6) := ⟨⟨by decide +kernel, by decide +kernel⟩, List.mem_of_getElem? (i := 148) (by decide +kernel), List.mem_of_getElem? (i := 623) (by decide +kernel), List.mem_of_getElem? (i := 624) (by decide +kernel)⟩
theorem lw_p11 : lw_okq (⟨"ShornSins$Course", "moult", "(I)V"⟩, 6) := ⟨⟨by decide +kernel, by decide +kernel⟩, List.mem_of_getElem? (i := 148) (by decide +kernel), List.mem_of_getElem? (i := 630) (by decide +kernel), List.mem_of_getElem? (i := 631) (by decide +kernel)⟩
theorem lw_p12 : lw_okq (⟨"ShornSins$Course", "travel", "(I)V"⟩, 6) := ⟨⟨by decide +kernel, by decide +kernel⟩, List.mem_of_getElem? (i := 148) (by decide +kernel), List.mem_of_getElem? (i := 634) (by decide +kernel), List.mem_of_getElem? (i := 635) (by decide +kernel)⟩
theorem lw_p13 : lw_okq (⟨"ShornSins$Course", "makeRounds", "(IZ)V"⟩, 6) := ⟨⟨by decide +kernel, by decide +kernel⟩, List.mem_of_getElem? (i := 148) (by decide +kernel), List.mem_of_getElem? (i := 639) (by decide +kernel), List.mem_of_getElem? (i := 640) (by decide +kernel)⟩
theorem lw_p14 : lw_okq (⟨"ShornSins$Course", "woolliestIn", "(I)I"⟩, 6) := ⟨⟨by decide +kernel, by decide +kernel⟩, List.mem_of_getElem? (i := 148) (by decide +kernel), List.mem_of_getElem? (i := 643) (by decide +kernel), List.mem_of_getElem? (i := 644) (by decide +kernel)⟩
theorem lw_p15 : lw_okq (⟨"ShornSins$Course", "shear", "(IIZ)V"⟩, 6) := ⟨⟨by decide +kernel, by decide +kernel⟩, List.mem_of_getElem? (i := 148) (by decide +kernel), List.mem_of_getElem? (i := 647) (by decide +kernel), List.mem_of_getElem? (i := 648) (by decide +kernel)⟩
def lw_privs_1 : List (MethodName × Nat) := [(⟨"ShornSins", "textOf", "(I)LShornSins$Text;"⟩, 10), (⟨"ShornSins", "readTexts", "()V"⟩, 10), (⟨"ShornSins$Text", "meaningAt", "(I)I"⟩, 5), (⟨"ShornSins$Text", "signsAt", "(I)Ljava/lang/String;"⟩, 5), (⟨"ShornSins", "unsettle", "()V"⟩, 10), (⟨"ShornSins", "isPerson", "(I)Z"⟩, 10), (⟨"ShornSins", "isDeed", "(I)Z"⟩, 10), (⟨"ShornSins", "settle", "()V"⟩, 10), (⟨"ShornSins$Course", "begin", "()V"⟩, 6), (⟨"ShornSins$Course", "doDeeds", "(I)I"⟩, 6), (⟨"ShornSins$Course", "lives", "(I)Z"⟩, 6), (⟨"ShornSins$Course", "moult", "(I)V"⟩, 6), (⟨"ShornSins$Course", "travel", "(I)V"⟩, 6), (⟨"ShornSins$Course", "makeRounds", "(IZ)V"⟩, 6), (⟨"ShornSins$Course", "woolliestIn", "(I)I"⟩, 6), (⟨"ShornSins$Course", "shear", "(IIZ)V"⟩, 6)]
theorem lw_r1 : ∀ q ∈ lw_privs_1, lw_okq q := List.forall_mem_cons.mpr ⟨lw_p0, List.forall_mem_cons.mpr ⟨lw_p1, List.forall_mem_cons.mpr ⟨lw_p2, List.forall_mem_cons.mpr ⟨lw_p3, List.forall_mem_cons.mpr ⟨lw_p4, List.forall_mem_cons.mpr ⟨lw_p5, List.forall_mem_cons.mpr ⟨lw_p6, List.forall_mem_cons.mpr ⟨lw_p7, List.forall_mem_cons.mpr ⟨lw_p8, List.forall_mem_cons.mpr ⟨lw_p9, List.forall_mem_cons.mpr ⟨lw_p10, List.forall_mem_cons.mpr ⟨lw_p11, List.forall_mem_cons.mpr ⟨lw_p12, List.forall_mem_cons.mpr ⟨lw_p13, List.forall_mem_cons.mpr ⟨lw_p14, List.forall_mem_cons.mpr ⟨lw_p15, fun _ h => absurd h List.not_mem_nil⟩⟩⟩⟩⟩⟩⟩⟩⟩⟩⟩⟩⟩⟩⟩⟩
theorem lw_p16 : lw_okq (⟨"ShornSins$Course", "livesBehind", "(II)Z"⟩, 6) := ⟨⟨by decide +kernel, by decide +kernel⟩, List.mem_of_getElem? (i := 148) (by decide +kernel), List.mem_of_getElem? (i := 682) (by decide +kernel), List.mem_of_getElem? (i := 683) (by decide +kernel)⟩
theorem lw_p17 : lw_okq (⟨"ShornSins$Plans", "measure", "(I)V"⟩, 11) := ⟨⟨by decide +kernel, by decide +kernel⟩, List.mem_of_getElem? (i := 205) (by decide +kernel), List.mem_of_getElem? (i := 747) (by decide +kernel), List.mem_of_getElem? (i := 748) (by decide +kernel)⟩
theorem lw_p18 : lw_okq (⟨"ShornSins$Witness", "keepWools", "(I)V"⟩, 5) := ⟨⟨by decide +kernel, by decide +kernel⟩, List.mem_of_getElem? (i := 263) (by decide +kernel), List.mem_of_getElem? (i := 804) (by decide +kernel), List.mem_of_getElem? (i := 805) (by decide +kernel)⟩
theorem lw_p19 : lw_okq (⟨"ShornSins$Witness", "comesOut", "()Z"⟩, 5) := ⟨⟨by decide +kernel, by decide +kernel⟩, List.mem_of_getElem? (i := 263) (by decide +kernel), List.mem_of_getElem? (i := 812) (by decide +kernel), List.mem_of_getElem? (i := 813) (by decide +kernel)⟩
theorem lw_p20 : lw_okq (⟨"ShornSins$Witness", "lastSeen", "()I"⟩, 5) := ⟨⟨by decide +kernel, by decide +kernel⟩, List.mem_of_getElem? (i := 263) (by decide +kernel), List.mem_of_getElem? (i := 824) (by decide +kernel), List.mem_of_getElem? (i := 825) (by decide +kernel)⟩
theorem lw_p21 : lw_okq (⟨"ShornSins$Witness", "mostAlike", "(II)I"⟩, 5) := ⟨⟨by decide +kernel, by decide +kernel⟩, List.mem_of_getElem? (i := 263) (by decide +kernel), List.mem_of_getElem? (i := 838) (by decide +kernel), List.mem_of_getElem? (i := 839) (by decide +kernel)⟩
theorem lw_p22 : lw_okq (⟨"ShornSins$Witness", "manyLike", "(III)I"⟩, 5) := ⟨⟨by decide +kernel, by decide +kernel⟩, List.mem_of_getElem? (i := 263) (by decide +kernel), List.mem_of_getElem? (i := 842) (by decide +kernel), List.mem_of_getElem? (i := 843) (by decide +kernel)⟩
theorem lw_p23 : lw_okq (⟨"ShornSins$Chances", "supposeFrosts", "(II)V"⟩, 6) := ⟨⟨by decide +kernel, by decide +kernel⟩, List.mem_of_getElem? (i := 289) (by decide +kernel), List.mem_of_getElem? (i := 869) (by decide +kernel), List.mem_of_getElem? (i := 870) (by decide +kernel)⟩
theorem lw_p24 : lw_okq (⟨"ShornSins$Chances", "addToLiving", "(J)V"⟩, 6) := ⟨⟨by decide +kernel, by decide +kernel⟩, List.mem_of_getElem? (i := 289) (by decide +kernel), List.mem_of_getElem? (i := 875) (by decide +kernel), List.mem_of_getElem? (i := 876) (by decide +kernel)⟩
theorem lw_p25 : lw_okq (⟨"ShornSins$Chances", "reduce", "(I)V"⟩, 6) := ⟨⟨by decide +kernel, by decide +kernel⟩, List.mem_of_getElem? (i := 289) (by decide +kernel), List.mem_of_getElem? (i := 880) (by decide +kernel), List.mem_of_getElem? (i := 881) (by decide +kernel)⟩
theorem lw_p26 : lw_okq (⟨"ShornSins$Chances", "lot", "(I)I"⟩, 6) := ⟨⟨by decide +kernel, by decide +kernel⟩, List.mem_of_getElem? (i := 289) (by decide +kernel), List.mem_of_getElem? (i := 900) (by decide +kernel), List.mem_of_getElem? (i := 901) (by decide +kernel)⟩
theorem lw_p27 : lw_okq (⟨"ShornSins", "digestPerson", "(JI)J"⟩, 10) := ⟨⟨by decide +kernel, by decide +kernel⟩, List.mem_of_getElem? (i := 23) (by decide +kernel), List.mem_of_getElem? (i := 971) (by decide +kernel), List.mem_of_getElem? (i := 972) (by decide +kernel)⟩
theorem lw_p28 : lw_okq (⟨"ShornSinsModel", "faultOf", "(I)I"⟩, 56) := ⟨⟨by decide +kernel, by decide +kernel⟩, List.mem_of_getElem? (i := 993) (by decide +kernel), List.mem_of_getElem? (i := 1191) (by decide +kernel), List.mem_of_getElem? (i := 1192) (by decide +kernel)⟩
theorem lw_p29 : lw_okq (⟨"ShornSinsModel", "readsParts", "(I)I"⟩, 56) := ⟨⟨by decide +kernel, by decide +kernel⟩, List.mem_of_getElem? (i := 993) (by decide +kernel), List.mem_of_getElem? (i := 1195) (by decide +kernel), List.mem_of_getElem? (i := 1196) (by decide +kernel)⟩
theorem lw_p30 : lw_okq (⟨"ShornSinsModel", "readsPerson", "(II)I"⟩, 56) := ⟨⟨by decide +kernel, by decide +kernel⟩, List.mem_of_getElem? (i := 993) (by decide +kernel), List.mem_of_getElem? (i := 1199) (by decide +kernel), List.mem_of_getElem? (i := 1200) (by decide +kernel)⟩
theorem lw_p31 : lw_okq (⟨"ShornSinsModel", "byteAt", "(II)I"⟩, 56) := ⟨⟨by decide +kernel, by decide +kernel⟩, List.mem_of_getElem? (i := 993) (by decide +kernel), List.mem_of_getElem? (i := 1203) (by decide +kernel), List.mem_of_getElem? (i := 1204) (by decide +kernel)⟩
def lw_privs_2 : List (MethodName × Nat) := [(⟨"ShornSins$Course", "livesBehind", "(II)Z"⟩, 6), (⟨"ShornSins$Plans", "measure", "(I)V"⟩, 11), (⟨"ShornSins$Witness", "keepWools", "(I)V"⟩, 5), (⟨"ShornSins$Witness", "comesOut", "()Z"⟩, 5), (⟨"ShornSins$Witness", "lastSeen", "()I"⟩, 5), (⟨"ShornSins$Witness", "mostAlike", "(II)I"⟩, 5), (⟨"ShornSins$Witness", "manyLike", "(III)I"⟩, 5), (⟨"ShornSins$Chances", "supposeFrosts", "(II)V"⟩, 6), (⟨"ShornSins$Chances", "addToLiving", "(J)V"⟩, 6), (⟨"ShornSins$Chances", "reduce", "(I)V"⟩, 6), (⟨"ShornSins$Chances", "lot", "(I)I"⟩, 6), (⟨"ShornSins", "digestPerson", "(JI)J"⟩, 10), (⟨"ShornSinsModel", "faultOf", "(I)I"⟩, 56), (⟨"ShornSinsModel", "readsParts", "(I)I"⟩, 56), (⟨"ShornSinsModel", "readsPerson", "(II)I"⟩, 56), (⟨"ShornSinsModel", "byteAt", "(II)I"⟩, 56)]
theorem lw_r2 : ∀ q ∈ lw_privs_2, lw_okq q := List.forall_mem_cons.mpr ⟨lw_p16, List.forall_mem_cons.mpr ⟨lw_p17, List.forall_mem_cons.mpr ⟨lw_p18, List.forall_mem_cons.mpr ⟨lw_p19, List.forall_mem_cons.mpr ⟨lw_p20, List.forall_mem_cons.mpr ⟨lw_p21, List.forall_mem_cons.mpr ⟨lw_p22, List.forall_mem_cons.mpr ⟨lw_p23, List.forall_mem_cons.mpr ⟨lw_p24, List.forall_mem_cons.mpr ⟨lw_p25, List.forall_mem_cons.mpr ⟨lw_p26, List.forall_mem_cons.mpr ⟨lw_p27, List.forall_mem_cons.mpr ⟨lw_p28, List.forall_mem_cons.mpr ⟨lw_p29, List.forall_mem_cons.mpr ⟨lw_p30, List.forall_mem_cons.mpr ⟨lw_p31, fun _ h => absurd h List.not_mem_nil⟩⟩⟩⟩⟩⟩⟩⟩⟩⟩⟩⟩⟩⟩⟩⟩
theorem lw_p32 : lw_okq (⟨"ShornSinsModel", "readsDeed", "(II)I"⟩, 56) := ⟨⟨by decide +kernel, by decide +kernel⟩, List.mem_of_getElem? (i := 993) (by decide +kernel), List.mem_of_getElem? (i := 1207) (by decide +kernel), List.mem_of_getElem? (i := 1208) (by decide +kernel)⟩
theorem lw_p33 : lw_okq (⟨"ShornSinsModel", "isPerson", "(I)Z"⟩, 56) := ⟨⟨by decide +kernel, by decide +kernel⟩, List.mem_of_getElem? (i := 993) (by decide +kernel), List.mem_of_getElem? (i := 1215) (by decide +kernel), List.mem_of_getElem? (i := 1216) (by decide +kernel)⟩
theorem lw_p34 : lw_okq (⟨"ShornSinsModel", "reads", "()V"⟩, 56) := ⟨⟨by decide +kernel, by decide +kernel⟩, List.mem_of_getElem? (i := 993) (by decide +kernel), List.mem_of_getElem? (i := 1219) (by decide +kernel), List.mem_of_getElem? (i := 1220) (by decide +kernel)⟩
theorem lw_p35 : lw_okq (⟨"ShornSinsModel", "personOf", "(II)I"⟩, 56) := ⟨⟨by decide +kernel, by decide +kernel⟩, List.mem_of_getElem? (i := 993) (by decide +kernel), List.mem_of_getElem? (i := 1223) (by decide +kernel), List.mem_of_getElem? (i := 1224) (by decide +kernel)⟩
theorem lw_p36 : lw_okq (⟨"ShornSinsModel", "isDeed", "(I)Z"⟩, 56) := ⟨⟨by decide +kernel, by decide +kernel⟩, List.mem_of_getElem? (i := 993) (by decide +kernel), List.mem_of_getElem? (i := 1231) (by decide +kernel), List.mem_of_getElem? (i := 1232) (by decide +kernel)⟩
theorem lw_p37 : lw_okq (⟨"ShornSinsModel", "deedOf", "(II)I"⟩, 56) := ⟨⟨by decide +kernel, by decide +kernel⟩, List.mem_of_getElem? (i := 993) (by decide +kernel), List.mem_of_getElem? (i := 1235) (by decide +kernel), List.mem_of_getElem? (i := 1236) (by decide +kernel)⟩
theorem lw_p38 : lw_okq (⟨"ShornSinsModel", "meets", "(I)I"⟩, 56) := ⟨⟨by decide +kernel, by decide +kernel⟩, List.mem_of_getElem? (i := 993) (by decide +kernel), List.mem_of_getElem? (i := 1272) (by decide +kernel), List.mem_of_getElem? (i := 1273) (by decide +kernel)⟩
theorem lw_p39 : lw_okq (⟨"ShornSinsModel", "woolOf", "(III)I"⟩, 56) := ⟨⟨by decide +kernel, by decide +kernel⟩, List.mem_of_getElem? (i := 993) (by decide +kernel), List.mem_of_getElem? (i := 1281) (by decide +kernel), List.mem_of_getElem? (i := 1282) (by decide +kernel)⟩
theorem lw_p40 : lw_okq (⟨"ShornSinsModel", "runsTold", "()V"⟩, 56) := ⟨⟨by decide +kernel, by decide +kernel⟩, List.mem_of_getElem? (i := 993) (by decide +kernel), List.mem_of_getElem? (i := 1285) (by decide +kernel), List.mem_of_getElem? (i := 1286) (by decide +kernel)⟩
theorem lw_p41 : lw_okq (⟨"ShornSinsModel", "asTold", "()V"⟩, 56) := ⟨⟨by decide +kernel, by decide +kernel⟩, List.mem_of_getElem? (i := 993) (by decide +kernel), List.mem_of_getElem? (i := 1289) (by decide +kernel), List.mem_of_getElem? (i := 1290) (by decide +kernel)⟩
theorem lw_p42 : lw_okq (⟨"ShornSinsModel", "runs", "()V"⟩, 56) := ⟨⟨by decide +kernel, by decide +kernel⟩, List.mem_of_getElem? (i := 993) (by decide +kernel), List.mem_of_getElem? (i := 1293) (by decide +kernel), List.mem_of_getElem? (i := 1294) (by decide +kernel)⟩
theorem lw_p43 : lw_okq (⟨"ShornSinsModel", "grows", "(I)V"⟩, 56) := ⟨⟨by decide +kernel, by decide +kernel⟩, List.mem_of_getElem? (i := 993) (by decide +kernel), List.mem_of_getElem? (i := 1297) (by decide +kernel), List.mem_of_getElem? (i := 1298) (by decide +kernel)⟩
theorem lw_p44 : lw_okq (⟨"ShornSinsModel", "lives", "(I)Z"⟩, 56) := ⟨⟨by decide +kernel, by decide +kernel⟩, List.mem_of_getElem? (i := 993) (by decide +kernel), List.mem_of_getElem? (i := 1304) (by decide +kernel), List.mem_of_getElem? (i := 1305) (by decide +kernel)⟩
theorem lw_p45 : lw_okq (⟨"ShornSinsModel", "goes", "(I)V"⟩, 56) := ⟨⟨by decide +kernel, by decide +kernel⟩, List.mem_of_getElem? (i := 993) (by decide +kernel), List.mem_of_getElem? (i := 1311) (by decide +kernel), List.mem_of_getElem? (i := 1312) (by decide +kernel)⟩
theorem lw_p46 : lw_okq (⟨"ShornSinsModel", "shearsAll", "(I)V"⟩, 56) := ⟨⟨by decide +kernel, by decide +kernel⟩, List.mem_of_getElem? (i := 993) (by decide +kernel), List.mem_of_getElem? (i := 1315) (by decide +kernel), List.mem_of_getElem? (i := 1316) (by decide +kernel)⟩
theorem lw_p47 : lw_okq (⟨"ShornSinsModel", "nextIn", "(I)I"⟩, 56) := ⟨⟨by decide +kernel, by decide +kernel⟩, List.mem_of_getElem? (i := 993) (by decide +kernel), List.mem_of_getElem? (i := 1319) (by decide +kernel), List.mem_of_getElem? (i := 1320) (by decide +kernel)⟩
def lw_privs_3 : List (MethodName × Nat) := [(⟨"ShornSinsModel", "readsDeed", "(II)I"⟩, 56), (⟨"ShornSinsModel", "isPerson", "(I)Z"⟩, 56), (⟨"ShornSinsModel", "reads", "()V"⟩, 56), (⟨"ShornSinsModel", "personOf", "(II)I"⟩, 56), (⟨"ShornSinsModel", "isDeed", "(I)Z"⟩, 56), (⟨"ShornSinsModel", "deedOf", "(II)I"⟩, 56), (⟨"ShornSinsModel", "meets", "(I)I"⟩, 56), (⟨"ShornSinsModel", "woolOf", "(III)I"⟩, 56), (⟨"ShornSinsModel", "runsTold", "()V"⟩, 56), (⟨"ShornSinsModel", "asTold", "()V"⟩, 56), (⟨"ShornSinsModel", "runs", "()V"⟩, 56), (⟨"ShornSinsModel", "grows", "(I)V"⟩, 56), (⟨"ShornSinsModel", "lives", "(I)Z"⟩, 56), (⟨"ShornSinsModel", "goes", "(I)V"⟩, 56), (⟨"ShornSinsModel", "shearsAll", "(I)V"⟩, 56), (⟨"ShornSinsModel", "nextIn", "(I)I"⟩, 56)]
theorem lw_r3 : ∀ q ∈ lw_privs_3, lw_okq q := List.forall_mem_cons.mpr ⟨lw_p32, List.forall_mem_cons.mpr ⟨lw_p33, List.forall_mem_cons.mpr ⟨lw_p34, List.forall_mem_cons.mpr ⟨lw_p35, List.forall_mem_cons.mpr ⟨lw_p36, List.forall_mem_cons.mpr ⟨lw_p37, List.forall_mem_cons.mpr ⟨lw_p38, List.forall_mem_cons.mpr ⟨lw_p39, List.forall_mem_cons.mpr ⟨lw_p40, List.forall_mem_cons.mpr ⟨lw_p41, List.forall_mem_cons.mpr ⟨lw_p42, List.forall_mem_cons.mpr ⟨lw_p43, List.forall_mem_cons.mpr ⟨lw_p44, List.forall_mem_cons.mpr ⟨lw_p45, List.forall_mem_cons.mpr ⟨lw_p46, List.forall_mem_cons.mpr ⟨lw_p47, fun _ h => absurd h List.not_mem_nil⟩⟩⟩⟩⟩⟩⟩⟩⟩⟩⟩⟩⟩⟩⟩⟩
theorem lw_p48 : lw_okq (⟨"ShornSinsModel", "shears", "(II)V"⟩, 56) := ⟨⟨by decide +kernel, by decide +kernel⟩, List.mem_of_getElem? (i := 993) (by decide +kernel), List.mem_of_getElem? (i := 1323) (by decide +kernel), List.mem_of_getElem? (i := 1324) (by decide +kernel)⟩
theorem lw_p49 : lw_okq (⟨"ShornSinsModel", "keeps", "(I)V"⟩, 56) := ⟨⟨by decide +kernel, by decide +kernel⟩, List.mem_of_getElem? (i := 993) (by decide +kernel), List.mem_of_getElem? (i := 1327) (by decide +kernel), List.mem_of_getElem? (i := 1328) (by decide +kernel)⟩
theorem lw_p50 : lw_okq (⟨"ShornSinsModel", "heaviestNow", "()I"⟩, 56) := ⟨⟨by decide +kernel, by decide +kernel⟩, List.mem_of_getElem? (i := 993) (by decide +kernel), List.mem_of_getElem? (i := 1331) (by decide +kernel), List.mem_of_getElem? (i := 1332) (by decide +kernel)⟩
theorem lw_p51 : lw_okq (⟨"ShornSinsModel", "diesOf", "(I)I"⟩, 56) := ⟨⟨by decide +kernel, by decide +kernel⟩, List.mem_of_getElem? (i := 993) (by decide +kernel), List.mem_of_getElem? (i := 1339) (by decide +kernel), List.mem_of_getElem? (i := 1340) (by decide +kernel)⟩
theorem lw_p52 : lw_okq (⟨"ShornSinsModel", "clothOf", "(III)I"⟩, 56) := ⟨⟨by decide +kernel, by decide +kernel⟩, List.mem_of_getElem? (i := 993) (by decide +kernel), List.mem_of_getElem? (i := 1347) (by decide +kernel), List.mem_of_getElem? (i := 1348) (by decide +kernel)⟩
theorem lw_p53 : lw_okq (⟨"ShornSinsModel", "thornOf", "(I)I"⟩, 56) := ⟨⟨by decide +kernel, by decide +kernel⟩, List.mem_of_getElem? (i := 993) (by decide +kernel), List.mem_of_getElem? (i := 1355) (by decide +kernel), List.mem_of_getElem? (i := 1356) (by decide +kernel)⟩
theorem lw_p54 : lw_okq (⟨"ShornSinsModel", "taxOf", "(I)I"⟩, 56) := ⟨⟨by decide +kernel, by decide +kernel⟩, List.mem_of_getElem? (i := 993) (by decide +kernel), List.mem_of_getElem? (i := 1363) (by decide +kernel), List.mem_of_getElem? (i := 1364) (by decide +kernel)⟩
theorem lw_p55 : lw_okq (⟨"ShornSinsModel", "heaviestOf", "(I)I"⟩, 56) := ⟨⟨by decide +kernel, by decide +kernel⟩, List.mem_of_getElem? (i := 993) (by decide +kernel), List.mem_of_getElem? (i := 1371) (by decide +kernel), List.mem_of_getElem? (i := 1372) (by decide +kernel)⟩
theorem lw_p56 : lw_okq (⟨"ShornSinsModel", "firstOf", "(I)I"⟩, 56) := ⟨⟨by decide +kernel, by decide +kernel⟩, List.mem_of_getElem? (i := 993) (by decide +kernel), List.mem_of_getElem? (i := 1379) (by decide +kernel), List.mem_of_getElem? (i := 1380) (by decide +kernel)⟩
theorem lw_p57 : lw_okq (⟨"ShornSinsModel", "planOf", "(II)I"⟩, 56) := ⟨⟨by decide +kernel, by decide +kernel⟩, List.mem_of_getElem? (i := 993) (by decide +kernel), List.mem_of_getElem? (i := 1387) (by decide +kernel), List.mem_of_getElem? (i := 1388) (by decide +kernel)⟩
theorem lw_p58 : lw_okq (⟨"ShornSinsModel", "worthAll", "()I"⟩, 56) := ⟨⟨by decide +kernel, by decide +kernel⟩, List.mem_of_getElem? (i := 993) (by decide +kernel), List.mem_of_getElem? (i := 1391) (by decide +kernel), List.mem_of_getElem? (i := 1392) (by decide +kernel)⟩
theorem lw_p59 : lw_okq (⟨"ShornSinsModel", "lightBy", "(II)I"⟩, 56) := ⟨⟨by decide +kernel, by decide +kernel⟩, List.mem_of_getElem? (i := 993) (by decide +kernel), List.mem_of_getElem? (i := 1399) (by decide +kernel), List.mem_of_getElem? (i := 1400) (by decide +kernel)⟩
theorem lw_p60 : lw_okq (⟨"ShornSinsModel", "isLight", "(III)Z"⟩, 56) := ⟨⟨by decide +kernel, by decide +kernel⟩, List.mem_of_getElem? (i := 993) (by decide +kernel), List.mem_of_getElem? (i := 1403) (by decide +kernel), List.mem_of_getElem? (i := 1404) (by decide +kernel)⟩
theorem lw_p61 : lw_okq (⟨"ShornSinsModel", "ofRow", "(II)I"⟩, 56) := ⟨⟨by decide +kernel, by decide +kernel⟩, List.mem_of_getElem? (i := 993) (by decide +kernel), List.mem_of_getElem? (i := 1407) (by decide +kernel), List.mem_of_getElem? (i := 1408) (by decide +kernel)⟩
theorem lw_p62 : lw_okq (⟨"ShornSinsModel", "spareBy", "()I"⟩, 56) := ⟨⟨by decide +kernel, by decide +kernel⟩, List.mem_of_getElem? (i := 993) (by decide +kernel), List.mem_of_getElem? (i := 1415) (by decide +kernel), List.mem_of_getElem? (i := 1416) (by decide +kernel)⟩
theorem lw_p63 : lw_okq (⟨"ShornSinsModel", "isSpared", "(I)Z"⟩, 56) := ⟨⟨by decide +kernel, by decide +kernel⟩, List.mem_of_getElem? (i := 993) (by decide +kernel), List.mem_of_getElem? (i := 1419) (by decide +kernel), List.mem_of_getElem? (i := 1420) (by decide +kernel)⟩
def lw_privs_4 : List (MethodName × Nat) := [(⟨"ShornSinsModel", "shears", "(II)V"⟩, 56), (⟨"ShornSinsModel", "keeps", "(I)V"⟩, 56), (⟨"ShornSinsModel", "heaviestNow", "()I"⟩, 56), (⟨"ShornSinsModel", "diesOf", "(I)I"⟩, 56), (⟨"ShornSinsModel", "clothOf", "(III)I"⟩, 56), (⟨"ShornSinsModel", "thornOf", "(I)I"⟩, 56), (⟨"ShornSinsModel", "taxOf", "(I)I"⟩, 56), (⟨"ShornSinsModel", "heaviestOf", "(I)I"⟩, 56), (⟨"ShornSinsModel", "firstOf", "(I)I"⟩, 56), (⟨"ShornSinsModel", "planOf", "(II)I"⟩, 56), (⟨"ShornSinsModel", "worthAll", "()I"⟩, 56), (⟨"ShornSinsModel", "lightBy", "(II)I"⟩, 56), (⟨"ShornSinsModel", "isLight", "(III)Z"⟩, 56), (⟨"ShornSinsModel", "ofRow", "(II)I"⟩, 56), (⟨"ShornSinsModel", "spareBy", "()I"⟩, 56), (⟨"ShornSinsModel", "isSpared", "(I)Z"⟩, 56)]
theorem lw_r4 : ∀ q ∈ lw_privs_4, lw_okq q := List.forall_mem_cons.mpr ⟨lw_p48, List.forall_mem_cons.mpr ⟨lw_p49, List.forall_mem_cons.mpr ⟨lw_p50, List.forall_mem_cons.mpr ⟨lw_p51, List.forall_mem_cons.mpr ⟨lw_p52, List.forall_mem_cons.mpr ⟨lw_p53, List.forall_mem_cons.mpr ⟨lw_p54, List.forall_mem_cons.mpr ⟨lw_p55, List.forall_mem_cons.mpr ⟨lw_p56, List.forall_mem_cons.mpr ⟨lw_p57, List.forall_mem_cons.mpr ⟨lw_p58, List.forall_mem_cons.mpr ⟨lw_p59, List.forall_mem_cons.mpr ⟨lw_p60, List.forall_mem_cons.mpr ⟨lw_p61, List.forall_mem_cons.mpr ⟨lw_p62, List.forall_mem_cons.mpr ⟨lw_p63, fun _ h => absurd h List.not_mem_nil⟩⟩⟩⟩⟩⟩⟩⟩⟩⟩⟩⟩⟩⟩⟩⟩
theorem lw_p64 : lw_okq (⟨"ShornSinsModel", "livesMany", "()I"⟩, 56) := ⟨⟨by decide +kernel, by decide +kernel⟩, List.mem_of_getElem? (i := 993) (by decide +kernel), List.mem_of_getElem? (i := 1423) (by decide +kernel), List.mem_of_getElem? (i := 1424) (by decide +kernel)⟩
theorem lw_p65 : lw_okq (⟨"ShornSinsModel", "homeOf", "(II)I"⟩, 56) := ⟨⟨by decide +kernel, by decide +kernel⟩, List.mem_of_getElem? (i := 993) (by decide +kernel), List.mem_of_getElem? (i := 1431) (by decide +kernel), List.mem_of_getElem? (i := 1432) (by decide +kernel)⟩
theorem lw_p66 : lw_okq (⟨"ShornSinsModel", "neverNow", "()I"⟩, 56) := ⟨⟨by decide +kernel, by decide +kernel⟩, List.mem_of_getElem? (i := 993) (by decide +kernel), List.mem_of_getElem? (i := 1447) (by decide +kernel), List.mem_of_getElem? (i := 1448) (by decide +kernel)⟩
theorem lw_p67 : lw_okq (⟨"ShornSinsModel", "isSeen", "()Z"⟩, 56) := ⟨⟨by decide +kernel, by decide +kernel⟩, List.mem_of_getElem? (i := 993) (by decide +kernel), List.mem_of_getElem? (i := 1451) (by decide +kernel), List.mem_of_getElem? (i := 1452) (by decide +kernel)⟩
theorem lw_p68 : lw_okq (⟨"ShornSinsModel", "wasOf", "(II)I"⟩, 56) := ⟨⟨by decide +kernel, by decide +kernel⟩, List.mem_of_getElem? (i := 993) (by decide +kernel), List.mem_of_getElem? (i := 1459) (by decide +kernel), List.mem_of_getElem? (i := 1460) (by decide +kernel)⟩
theorem lw_p69 : lw_okq (⟨"ShornSinsModel", "askOf", "(I)I"⟩, 56) := ⟨⟨by decide +kernel, by decide +kernel⟩, List.mem_of_getElem? (i := 993) (by decide +kernel), List.mem_of_getElem? (i := 1467) (by decide +kernel), List.mem_of_getElem? (i := 1468) (by decide +kernel)⟩
theorem lw_p70 : lw_okq (⟨"ShornSinsModel", "virtueOf", "(IIII)J"⟩, 56) := ⟨⟨by decide +kernel, by decide +kernel⟩, List.mem_of_getElem? (i := 993) (by decide +kernel), List.mem_of_getElem? (i := 1475) (by decide +kernel), List.mem_of_getElem? (i := 1476) (by decide +kernel)⟩
theorem lw_p71 : lw_okq (⟨"ShornSinsModel", "yearsOf", "(III)I"⟩, 56) := ⟨⟨by decide +kernel, by decide +kernel⟩, List.mem_of_getElem? (i := 993) (by decide +kernel), List.mem_of_getElem? (i := 1490) (by decide +kernel), List.mem_of_getElem? (i := 1491) (by decide +kernel)⟩
theorem lw_p72 : lw_okq (⟨"ShornSinsModel", "lacks", "(III)I"⟩, 56) := ⟨⟨by decide +kernel, by decide +kernel⟩, List.mem_of_getElem? (i := 993) (by decide +kernel), List.mem_of_getElem? (i := 1507) (by decide +kernel), List.mem_of_getElem? (i := 1508) (by decide +kernel)⟩
theorem lw_p73 : lw_okq (⟨"ShornSinsModel", "keep", "(III)V"⟩, 56) := ⟨⟨by decide +kernel, by decide +kernel⟩, List.mem_of_getElem? (i := 993) (by decide +kernel), List.mem_of_getElem? (i := 1511) (by decide +kernel), List.mem_of_getElem? (i := 1512) (by decide +kernel)⟩
theorem lw_p74 : lw_okq (⟨"ShornSinsModel", "sumOf", "(I)I"⟩, 56) := ⟨⟨by decide +kernel, by decide +kernel⟩, List.mem_of_getElem? (i := 993) (by decide +kernel), List.mem_of_getElem? (i := 1532) (by decide +kernel), List.mem_of_getElem? (i := 1533) (by decide +kernel)⟩
theorem lw_p75 : lw_okq (⟨"ShornSinsModel", "personDigest", "(JI)J"⟩, 56) := ⟨⟨by decide +kernel, by decide +kernel⟩, List.mem_of_getElem? (i := 993) (by decide +kernel), List.mem_of_getElem? (i := 1543) (by decide +kernel), List.mem_of_getElem? (i := 1544) (by decide +kernel)⟩
theorem lw_p76 : lw_okq (⟨"ShornSinsModel", "monthDigest", "(JII)J"⟩, 56) := ⟨⟨by decide +kernel, by decide +kernel⟩, List.mem_of_getElem? (i := 993) (by decide +kernel), List.mem_of_getElem? (i := 1547) (by decide +kernel), List.mem_of_getElem? (i := 1548) (by decide +kernel)⟩
theorem lw_p77 : lw_okq (⟨"ShornSinsModel", "deedDigest", "(JI)J"⟩, 56) := ⟨⟨by decide +kernel, by decide +kernel⟩, List.mem_of_getElem? (i := 993) (by decide +kernel), List.mem_of_getElem? (i := 1551) (by decide +kernel), List.mem_of_getElem? (i := 1552) (by decide +kernel)⟩
theorem lw_p78 : lw_okq (⟨"ShornSinsModel", "countyDigest", "(JI)J"⟩, 56) := ⟨⟨by decide +kernel, by decide +kernel⟩, List.mem_of_getElem? (i := 993) (by decide +kernel), List.mem_of_getElem? (i := 1555) (by decide +kernel), List.mem_of_getElem? (i := 1556) (by decide +kernel)⟩
theorem lw_p79 : lw_okq (⟨"ShornSinsModel", "thornDigest", "(JI)J"⟩, 56) := ⟨⟨by decide +kernel, by decide +kernel⟩, List.mem_of_getElem? (i := 993) (by decide +kernel), List.mem_of_getElem? (i := 1559) (by decide +kernel), List.mem_of_getElem? (i := 1560) (by decide +kernel)⟩
def lw_privs_5 : List (MethodName × Nat) := [(⟨"ShornSinsModel", "livesMany", "()I"⟩, 56), (⟨"ShornSinsModel", "homeOf", "(II)I"⟩, 56), (⟨"ShornSinsModel", "neverNow", "()I"⟩, 56), (⟨"ShornSinsModel", "isSeen", "()Z"⟩, 56), (⟨"ShornSinsModel", "wasOf", "(II)I"⟩, 56), (⟨"ShornSinsModel", "askOf", "(I)I"⟩, 56), (⟨"ShornSinsModel", "virtueOf", "(IIII)J"⟩, 56), (⟨"ShornSinsModel", "yearsOf", "(III)I"⟩, 56), (⟨"ShornSinsModel", "lacks", "(III)I"⟩, 56), (⟨"ShornSinsModel", "keep", "(III)V"⟩, 56), (⟨"ShornSinsModel", "sumOf", "(I)I"⟩, 56), (⟨"ShornSinsModel", "personDigest", "(JI)J"⟩, 56), (⟨"ShornSinsModel", "monthDigest", "(JII)J"⟩, 56), (⟨"ShornSinsModel", "deedDigest", "(JI)J"⟩, 56), (⟨"ShornSinsModel", "countyDigest", "(JI)J"⟩, 56), (⟨"ShornSinsModel", "thornDigest", "(JI)J"⟩, 56)]
theorem lw_r5 : ∀ q ∈ lw_privs_5, lw_okq q := List.forall_mem_cons.mpr ⟨lw_p64, List.forall_mem_cons.mpr ⟨lw_p65, List.forall_mem_cons.mpr ⟨lw_p66, List.forall_mem_cons.mpr ⟨lw_p67, List.forall_mem_cons.mpr ⟨lw_p68, List.forall_mem_cons.mpr ⟨lw_p69, List.forall_mem_cons.mpr ⟨lw_p70, List.forall_mem_cons.mpr ⟨lw_p71, List.forall_mem_cons.mpr ⟨lw_p72, List.forall_mem_cons.mpr ⟨lw_p73, List.forall_mem_cons.mpr ⟨lw_p74, List.forall_mem_cons.mpr ⟨lw_p75, List.forall_mem_cons.mpr ⟨lw_p76, List.forall_mem_cons.mpr ⟨lw_p77, List.forall_mem_cons.mpr ⟨lw_p78, List.forall_mem_cons.mpr ⟨lw_p79, fun _ h => absurd h List.not_mem_nil⟩⟩⟩⟩⟩⟩⟩⟩⟩⟩⟩⟩⟩⟩⟩⟩
def lw_privs : List (MethodName × Nat) := lw_privs_1 ++ (lw_privs_2 ++ (lw_privs_3 ++ (lw_privs_4 ++ (lw_privs_5))))
def lw_tbl : List Cond := k2_sels lw_privs ++ tables_1
theorem lw_privs_ok : ∀ q ∈ lw_privs, lw_okq q := by
  show ∀ q ∈ lw_privs_1 ++ (lw_privs_2 ++ (lw_privs_3 ++ (lw_privs_4 ++ (lw_privs_5)))), lw_okq q
  exact List.forall_mem_append.mpr ⟨lw_r1, List.forall_mem_append.mpr ⟨lw_r2, List.forall_mem_append.mpr ⟨lw_r3, List.forall_mem_append.mpr ⟨lw_r4, lw_r5⟩⟩⟩⟩
end
section
/-- the tables' words that every method may take along -/
def zTB : List Cond := lw_tbl.filter goodWord
theorem zmem {w : Cond} (i : Nat) (h : lw_tbl[i]? = some w) (g : goodWord w = true) : w ∈ zTB := List.mem_filter.mpr ⟨List.mem_of_getElem? h, g⟩
theorem zin {C : String} {T : u_T} {N : Nat} (ps : List Nat) (h : u_ws C T N = ps.filterMap (fun i => lw_tbl[i]?)) (g : (u_ws C T N).all goodWord = true) : ∀ w ∈ u_ws C T N, w ∈ zTB := by
  intro w hw
  have h1 := List.all_eq_true.mp g w hw
  rw [h] at hw
  obtain ⟨i, -, hi⟩ := List.mem_filterMap.mp hw
  exact zmem i hi h1
def zch : Nat → List Cond
  | 0 => k2_sels lw_privs
  | 1 => tables_1_1
  | 2 => tables_1_2
  | 3 => tables_1_3
  | 4 => tables_1_4
  | 5 => tables_1_5
  | 6 => tables_1_6
  | 7 => tables_1_7
  | _ => []
theorem zch_in (j : Nat) {w : Cond} (h : w ∈ zch j) : w ∈ lw_tbl := by
  have t : ∀ {a b : List Cond}, w ∈ a → w ∈ a ++ b := fun h => List.mem_append_left _ h
  have r : ∀ {a b : List Cond}, w ∈ b → w ∈ a ++ b := fun h => List.mem_append_right _ h
  match j, h with
  | 0, h => exact t h
  | 1, h => exact r (t h)
  | 2, h => exact r (r (t h))
  | 3, h => exact r (r (r (t h)))
  | 4, h => exact r (r (r (r (t h))))
  | 5, h => exact r (r (r (r (r (t h)))))
  | 6, h => exact r (r (r (r (r (r (t h))))))
  | 7, h => exact r (r (r (r (r (r (r h))))))
theorem zme (j : Nat) {w : Cond} (i : Nat) (h : (zch j)[i]? = some w) (g : goodWord w = true) : w ∈ zTB := List.mem_filter.mpr ⟨zch_in j (List.mem_of_getElem? h), g⟩
theorem zTB_in : ∀ w ∈ zTB, w ∈ lw_tbl := fun w h => (List.mem_filter.mp h).1
theorem zTB_good : ∀ w ∈ zTB, goodWord w = true := fun w h => (List.mem_filter.mp h).2
def RX0 : String := "ShornSins$Chances"
def TX0 : u_T := fun k => match k with
  | 0 => ("ShornSins$Chances", "other", "LShornSins$Other;", true)
  | 1 => ("ShornSins$Chances", "above", "[J", true)
  | 2 => ("ShornSins$Chances", "below", "[J", true)
  | 3 => ("ShornSins$Chances", "knownSixteenths", "I", false)
  | 4 => ("ShornSins$Chances", "knownLast", "I", false)
  | _ => ("ShornSins$Chances", "lotSeed", "I", false)
def tyX0 : Nat → FieldType := fun k => match k with
  | 0 => .object "ShornSins$Other"
  | 1 => .array .long
  | 2 => .array .long
  | 3 => .int
  | 4 => .int
  | _ => .int
abbrev wsX00 : List Cond := u_ws RX0 TX0 6
theorem nmX0 : ∀ a, a < 6 → ∀ b, b < 6 → a ≠ b → (TX0 a).2.1 ≠ (TX0 b).2.1 := by decide +kernel
theorem tyX0_ok : ∀ k, k < 6 → parseFieldDescriptor (TX0 k).2.2.1 = some (tyX0 k) := by decide +kernel
theorem inX0 : ∀ w ∈ wsX00, w ∈ zTB := zin [380, 382, 384, 386, 388, 390] (by decide +kernel) (by decide +kernel)
def RX1 : String := "ShornSins$Choice"
def TX1 : u_T := fun k => match k with
  | 0 => ("ShornSins$Choice", "one", "I", false)
  | _ => ("ShornSins$Choice", "two", "I", false)
def tyX1 : Nat → FieldType := fun k => match k with
  | 0 => .int
  | _ => .int
abbrev wsX10 : List Cond := u_ws RX1 TX1 2
theorem nmX1 : ∀ a, a < 2 → ∀ b, b < 2 → a ≠ b → (TX1 a).2.1 ≠ (TX1 b).2.1 := by decide +kernel
theorem tyX1_ok : ∀ k, k < 2 → parseFieldDescriptor (TX1 k).2.2.1 = some (tyX1 k) := by decide +kernel
theorem inX1 : ∀ w ∈ wsX10, w ∈ zTB := zin [298, 300] (by decide +kernel) (by decide +kernel)
def RX2 : String := "ShornSins$Course"
def TX2 : u_T := fun k => match k with
  | 0 => ("ShornSins$Course", "told", "LShornSins$Told;", true)
  | 1 => ("ShornSins$Course", "now", "[I", true)
  | 2 => ("ShornSins$Course", "rows", "[I", true)
  | 3 => ("ShornSins$Course", "deaths", "[I", true)
  | 4 => ("ShornSins$Course", "firstMonth", "I", false)
  | _ => ("ShornSins$Course", "firstWho", "I", false)
def tyX2 : Nat → FieldType := fun k => match k with
  | 0 => .object "ShornSins$Told"
  | 1 => .array .int
  | 2 => .array .int
  | 3 => .array .int
  | 4 => .int
  | _ => .int
abbrev wsX20 : List Cond := u_ws RX2 TX2 6
theorem nmX2 : ∀ a, a < 6 → ∀ b, b < 6 → a ≠ b → (TX2 a).2.1 ≠ (TX2 b).2.1 := by decide +kernel
theorem tyX2_ok : ∀ k, k < 6 → parseFieldDescriptor (TX2 k).2.2.1 = some (tyX2 k) := by decide +kernel
theorem inX2 : ∀ w ∈ wsX20, w ∈ zTB := zin [241, 243, 245, 247, 249, 251] (by decide +kernel) (by decide +kernel)
def RX3 : String := "ShornSins$Other"
def TX3 : u_T := fun k => match k with
  | 0 => ("ShornSins$Other", "told", "LShornSins$Told;", true)
  | 1 => ("ShornSins$Other", "as", "LShornSins$Told;", true)
  | _ => ("ShornSins$Other", "course", "LShornSins$Course;", true)
def tyX3 : Nat → FieldType := fun k => match k with
  | 0 => .object "ShornSins$Told"
  | 1 => .object "ShornSins$Told"
  | _ => .object "ShornSins$Course"
abbrev wsX30 : List Cond := u_ws RX3 TX3 3
theorem nmX3 : ∀ a, a < 3 → ∀ b, b < 3 → a ≠ b → (TX3 a).2.1 ≠ (TX3 b).2.1 := by decide +kernel
theorem tyX3_ok : ∀ k, k < 3 → parseFieldDescriptor (TX3 k).2.2.1 = some (tyX3 k) := by decide +kernel
theorem inX3 : ∀ w ∈ wsX30, w ∈ zTB := zin [277, 279, 281] (by decide +kernel) (by decide +kernel)
def RX4 : String := "ShornSins$Plans"
def TX4 : u_T := fun k => match k with
  | 0 => ("ShornSins$Plans", "other", "LShornSins$Other;", true)
  | 1 => ("ShornSins$Plans", "choice", "LShornSins$Choice;", true)
  | 2 => ("ShornSins$Plans", "highest", "[I", true)
  | 3 => ("ShornSins$Plans", "measured", "I", false)
  | 4 => ("ShornSins$Plans", "bestPace", "I", false)
  | 5 => ("ShornSins$Plans", "bestMonth", "I", false)
  | 6 => ("ShornSins$Plans", "bestCounty", "I", false)
  | 7 => ("ShornSins$Plans", "bestWorth", "I", false)
  | 8 => ("ShornSins$Plans", "homePerson", "I", false)
  | 9 => ("ShornSins$Plans", "homeCounty", "I", false)
  | _ => ("ShornSins$Plans", "homeMuch", "I", false)
def tyX4 : Nat → FieldType := fun k => match k with
  | 0 => .object "ShornSins$Other"
  | 1 => .object "ShornSins$Choice"
  | 2 => .array .int
  | 3 => .int
  | 4 => .int
  | 5 => .int
  | 6 => .int
  | 7 => .int
  | 8 => .int
  | 9 => .int
  | _ => .int
abbrev wsX40 : List Cond := u_ws RX4 TX4 11
theorem nmX4 : ∀ a, a < 11 → ∀ b, b < 11 → a ≠ b → (TX4 a).2.1 ≠ (TX4 b).2.1 := by decide +kernel
theorem tyX4_ok : ∀ k, k < 11 → parseFieldDescriptor (TX4 k).2.2.1 = some (tyX4 k) := by decide +kernel
theorem inX4 : ∀ w ∈ wsX40, w ∈ zTB := zin [319, 321, 323, 325, 327, 329, 331, 333, 335, 337, 339] (by decide +kernel) (by decide +kernel)
def RX5 : String := "ShornSins$Rows"
def TX5 : u_T := fun k => match k with
  | 0 => ("ShornSins$Rows", "first", "[I", true)
  | 1 => ("ShornSins$Rows", "second", "[I", true)
  | 2 => ("ShornSins$Rows", "third", "[I", true)
  | _ => ("ShornSins$Rows", "count", "I", false)
def tyX5 : Nat → FieldType := fun k => match k with
  | 0 => .array .int
  | 1 => .array .int
  | 2 => .array .int
  | _ => .int
abbrev wsX50 : List Cond := u_ws RX5 TX5 4
theorem nmX5 : ∀ a, a < 4 → ∀ b, b < 4 → a ≠ b → (TX5 a).2.1 ≠ (TX5 b).2.1 := by decide +kernel
theorem tyX5_ok : ∀ k, k < 4 → parseFieldDescriptor (TX5 k).2.2.1 = some (tyX5 k) := by decide +kernel
theorem inX5 : ∀ w ∈ wsX50, w ∈ zTB := zin [173, 175, 177, 179] (by decide +kernel) (by decide +kernel)
def RX6 : String := "ShornSins$Sheets"
def TX6 : u_T := fun k => match k with
  | 0 => ("ShornSins$Sheets", "forms", "[I", true)
  | 1 => ("ShornSins$Sheets", "lengths", "[I", true)
  | 2 => ("ShornSins$Sheets", "items", "[I", true)
  | _ => ("ShornSins$Sheets", "latest", "I", false)
def tyX6 : Nat → FieldType := fun k => match k with
  | 0 => .array .int
  | 1 => .array .int
  | 2 => .array .int
  | _ => .int
abbrev wsX60 : List Cond := u_ws RX6 TX6 4
theorem nmX6 : ∀ a, a < 4 → ∀ b, b < 4 → a ≠ b → (TX6 a).2.1 ≠ (TX6 b).2.1 := by decide +kernel
theorem tyX6_ok : ∀ k, k < 4 → parseFieldDescriptor (TX6 k).2.2.1 = some (tyX6 k) := by decide +kernel
theorem inX6 : ∀ w ∈ wsX60, w ∈ zTB := zin [408, 410, 412, 414] (by decide +kernel) (by decide +kernel)
def RX7 : String := "ShornSins$Text"
def TX7 : u_T := fun k => match k with
  | 0 => ("ShornSins$Text", "bytes", "[I", true)
  | 1 => ("ShornSins$Text", "firstSigns", "Ljava/lang/String;", true)
  | 2 => ("ShornSins$Text", "secondSigns", "Ljava/lang/String;", true)
  | 3 => ("ShornSins$Text", "thirdSigns", "Ljava/lang/String;", true)
  | _ => ("ShornSins$Text", "length", "I", false)
def tyX7 : Nat → FieldType := fun k => match k with
  | 0 => .array .int
  | 1 => .object "java/lang/String"
  | 2 => .object "java/lang/String"
  | 3 => .object "java/lang/String"
  | _ => .int
abbrev wsX70 : List Cond := u_ws RX7 TX7 5
theorem nmX7 : ∀ a, a < 5 → ∀ b, b < 5 → a ≠ b → (TX7 a).2.1 ≠ (TX7 b).2.1 := by decide +kernel
theorem tyX7_ok : ∀ k, k < 5 → parseFieldDescriptor (TX7 k).2.2.1 = some (tyX7 k) := by decide +kernel
theorem inX7 : ∀ w ∈ wsX70, w ∈ zTB := zin [128, 130, 132, 134, 136] (by decide +kernel) (by decide +kernel)
def RX8 : String := "ShornSins$Told"
def TX8 : u_T := fun k => match k with
  | 0 => ("ShornSins$Told", "people", "LShornSins$Rows;", true)
  | 1 => ("ShornSins$Told", "deeds", "LShornSins$Rows;", true)
  | 2 => ("ShornSins$Told", "rounds", "LShornSins$Rows;", true)
  | 3 => ("ShornSins$Told", "journeys", "LShornSins$Rows;", true)
  | 4 => ("ShornSins$Told", "frosts", "LShornSins$Rows;", true)
  | 5 => ("ShornSins$Told", "grace", "I", false)
  | _ => ("ShornSins$Told", "cold", "I", false)
def tyX8 : Nat → FieldType := fun k => match k with
  | 0 => .object "ShornSins$Rows"
  | 1 => .object "ShornSins$Rows"
  | 2 => .object "ShornSins$Rows"
  | 3 => .object "ShornSins$Rows"
  | 4 => .object "ShornSins$Rows"
  | 5 => .int
  | _ => .int
abbrev wsX80 : List Cond := u_ws RX8 TX8 7
theorem nmX8 : ∀ a, a < 7 → ∀ b, b < 7 → a ≠ b → (TX8 a).2.1 ≠ (TX8 b).2.1 := by decide +kernel
theorem tyX8_ok : ∀ k, k < 7 → parseFieldDescriptor (TX8 k).2.2.1 = some (tyX8 k) := by decide +kernel
theorem inX8 : ∀ w ∈ wsX80, w ∈ zTB := zin [212, 214, 216, 218, 220, 222, 224] (by decide +kernel) (by decide +kernel)
def RX9 : String := "ShornSins$Witness"
def TX9 : u_T := fun k => match k with
  | 0 => ("ShornSins$Witness", "seen", "LShornSins$Rows;", true)
  | 1 => ("ShornSins$Witness", "never", "I", false)
  | 2 => ("ShornSins$Witness", "other", "LShornSins$Other;", true)
  | 3 => ("ShornSins$Witness", "wools", "[I", true)
  | _ => ("ShornSins$Witness", "surveyed", "Z", false)
def tyX9 : Nat → FieldType := fun k => match k with
  | 0 => .object "ShornSins$Rows"
  | 1 => .int
  | 2 => .object "ShornSins$Other"
  | 3 => .array .int
  | _ => .boolean
abbrev wsX90 : List Cond := u_ws RX9 TX9 5
theorem nmX9 : ∀ a, a < 5 → ∀ b, b < 5 → a ≠ b → (TX9 a).2.1 ≠ (TX9 b).2.1 := by decide +kernel
theorem tyX9_ok : ∀ k, k < 5 → parseFieldDescriptor (TX9 k).2.2.1 = some (tyX9 k) := by decide +kernel
theorem inX9 : ∀ w ∈ wsX90, w ∈ zTB := zin [357, 359, 361, 363, 365] (by decide +kernel) (by decide +kernel)
def RX10 : String := "ShornSins"
def TX10 : u_T := fun k => match k with
  | 0 => ("ShornSins", "peopleText", "LShornSins$Text;", true)
  | 1 => ("ShornSins", "deedsText", "LShornSins$Text;", true)
  | 2 => ("ShornSins", "told", "LShornSins$Told;", true)
  | 3 => ("ShornSins", "course", "LShornSins$Course;", true)
  | 4 => ("ShornSins", "other", "LShornSins$Other;", true)
  | 5 => ("ShornSins", "plans", "LShornSins$Plans;", true)
  | 6 => ("ShornSins", "witness", "LShornSins$Witness;", true)
  | 7 => ("ShornSins", "chances", "LShornSins$Chances;", true)
  | 8 => ("ShornSins", "sheets", "LShornSins$Sheets;", true)
  | _ => ("ShornSins", "settled", "Z", false)
def tyX10 : Nat → FieldType := fun k => match k with
  | 0 => .object "ShornSins$Text"
  | 1 => .object "ShornSins$Text"
  | 2 => .object "ShornSins$Told"
  | 3 => .object "ShornSins$Course"
  | 4 => .object "ShornSins$Other"
  | 5 => .object "ShornSins$Plans"
  | 6 => .object "ShornSins$Witness"
  | 7 => .object "ShornSins$Chances"
  | 8 => .object "ShornSins$Sheets"
  | _ => .boolean
abbrev wsX100 : List Cond := u_ws RX10 TX10 10
theorem nmX10 : ∀ a, a < 10 → ∀ b, b < 10 → a ≠ b → (TX10 a).2.1 ≠ (TX10 b).2.1 := by decide +kernel
theorem tyX10_ok : ∀ k, k < 10 → parseFieldDescriptor (TX10 k).2.2.1 = some (tyX10 k) := by decide +kernel
theorem inX10 : ∀ w ∈ wsX100, w ∈ zTB := zin [427, 429, 431, 433, 435, 437, 439, 441, 443, 445] (by decide +kernel) (by decide +kernel)
def RX11 : String := "ShornSinsModel"
def TX11 : u_T := fun k => match k with
  | 0 => ("ShornSinsModel", "typed", "[I", true)
  | 1 => ("ShornSinsModel", "texts", "[I", true)
  | 2 => ("ShornSinsModel", "people", "I", false)
  | 3 => ("ShornSinsModel", "wools", "[I", true)
  | 4 => ("ShornSinsModel", "homes", "[I", true)
  | 5 => ("ShornSinsModel", "firsts", "[I", true)
  | 6 => ("ShornSinsModel", "deeds", "I", false)
  | 7 => ("ShornSinsModel", "deedMonth", "[I", true)
  | 8 => ("ShornSinsModel", "deedWho", "[I", true)
  | 9 => ("ShornSinsModel", "deedWhat", "[I", true)
  | 10 => ("ShornSinsModel", "graceTold", "I", false)
  | 11 => ("ShornSinsModel", "coldTold", "I", false)
  | 12 => ("ShornSinsModel", "rounds", "I", false)
  | 13 => ("ShornSinsModel", "roundMonth", "[I", true)
  | 14 => ("ShornSinsModel", "roundCounty", "[I", true)
  | 15 => ("ShornSinsModel", "roundPace", "[I", true)
  | 16 => ("ShornSinsModel", "journeys", "I", false)
  | 17 => ("ShornSinsModel", "journeyMonth", "[I", true)
  | 18 => ("ShornSinsModel", "journeyWho", "[I", true)
  | 19 => ("ShornSinsModel", "journeyCounty", "[I", true)
  | 20 => ("ShornSinsModel", "frosts", "I", false)
  | 21 => ("ShornSinsModel", "frostMonth", "[I", true)
  | 22 => ("ShornSinsModel", "notDeeds", "I", false)
  | 23 => ("ShornSinsModel", "notRounds", "I", false)
  | 24 => ("ShornSinsModel", "frostBits", "I", false)
  | 25 => ("ShornSinsModel", "has", "[I", true)
  | 26 => ("ShornSinsModel", "place", "[I", true)
  | 27 => ("ShornSinsModel", "often", "[I", true)
  | 28 => ("ShornSinsModel", "shornOf", "[I", true)
  | 29 => ("ShornSinsModel", "diesAt", "[I", true)
  | 30 => ("ShornSinsModel", "did", "I", false)
  | 31 => ("ShornSinsModel", "thornNow", "I", false)
  | 32 => ("ShornSinsModel", "firstMonth", "I", false)
  | 33 => ("ShornSinsModel", "firstWho", "I", false)
  | 34 => ("ShornSinsModel", "cloths", "[I", true)
  | 35 => ("ShornSinsModel", "worths", "[I", true)
  | 36 => ("ShornSinsModel", "hasAt", "[I", true)
  | 37 => ("ShornSinsModel", "placeAt", "[I", true)
  | 38 => ("ShornSinsModel", "oftenAt", "[I", true)
  | 39 => ("ShornSinsModel", "thornAt", "[I", true)
  | 40 => ("ShornSinsModel", "heavyAt", "[I", true)
  | 41 => ("ShornSinsModel", "clothAt", "[I", true)
  | 42 => ("ShornSinsModel", "worthAt", "[I", true)
  | 43 => ("ShornSinsModel", "taxes", "[I", true)
  | 44 => ("ShornSinsModel", "planRow", "[I", true)
  | 45 => ("ShornSinsModel", "seens", "I", false)
  | 46 => ("ShornSinsModel", "seenMonth", "[I", true)
  | 47 => ("ShornSinsModel", "seenWho", "[I", true)
  | 48 => ("ShornSinsModel", "seenMuch", "[I", true)
  | 49 => ("ShornSinsModel", "hasWithout", "[I", true)
  | 50 => ("ShornSinsModel", "isThere", "[Z", true)
  | 51 => ("ShornSinsModel", "forms", "[I", true)
  | 52 => ("ShornSinsModel", "sizes", "[I", true)
  | 53 => ("ShornSinsModel", "items", "[I", true)
  | 54 => ("ShornSinsModel", "moved", "[I", true)
  | _ => ("ShornSinsModel", "finding", "I", false)
def tyX11 : Nat → FieldType := fun k => match k with
  | 0 => .array .int
  | 1 => .array .int
  | 2 => .int
  | 3 => .array .int
  | 4 => .array .int
  | 5 => .array .int
  | 6 => .int
  | 7 => .array .int
  | 8 => .array .int
  | 9 => .array .int
  | 10 => .int
  | 11 => .int
  | 12 => .int
  | 13 => .array .int
  | 14 => .array .int
  | 15 => .array .int
  | 16 => .int
  | 17 => .array .int
  | 18 => .array .int
  | 19 => .array .int
  | 20 => .int
  | 21 => .array .int
  | 22 => .int
  | 23 => .int
  | 24 => .int
  | 25 => .array .int
  | 26 => .array .int
  | 27 => .array .int
  | 28 => .array .int
  | 29 => .array .int
  | 30 => .int
  | 31 => .int
  | 32 => .int
  | 33 => .int
  | 34 => .array .int
  | 35 => .array .int
  | 36 => .array .int
  | 37 => .array .int
  | 38 => .array .int
  | 39 => .array .int
  | 40 => .array .int
  | 41 => .array .int
  | 42 => .array .int
  | 43 => .array .int
  | 44 => .array .int
  | 45 => .int
  | 46 => .array .int
  | 47 => .array .int
  | 48 => .array .int
  | 49 => .array .int
  | 50 => .array .boolean
  | 51 => .array .int
  | 52 => .array .int
  | 53 => .array .int
  | 54 => .array .int
  | _ => .int
abbrev wsX110 : List Cond := u_ws RX11 TX11 56
theorem nmX11 : ∀ a, a < 56 → ∀ b, b < 56 → a ≠ b → (TX11 a).2.1 ≠ (TX11 b).2.1 := by decide +kernel
theorem tyX11_ok : ∀ k, k < 56 → parseFieldDescriptor (TX11 k).2.2.1 = some (tyX11 k) := by decide +kernel
theorem inX11 : ∀ w ∈ wsX110, w ∈ zTB := zin [1134, 1136, 1138, 1140, 1142, 1144, 1146, 1148, 1150, 1152, 1154, 1156, 1158, 1160, 1162, 1164, 1166, 1168, 1170, 1172, 1174, 1176, 1178, 1180, 1182, 1184, 1186, 1188, 1190, 1192, 1194, 1196, 1198, 1200, 1202, 1204, 1206, 1208, 1210, 1212, 1214, 1216, 1218, 1220, 1222, 1224, 1226, 1228, 1230, 1232, 1234, 1236, 1238, 1240, 1242, 1244] (by decide +kernel) (by decide +kernel)
abbrev vwCl : List vw_C := [(RX0, TX0, 6), (RX1, TX1, 2), (RX2, TX2, 6), (RX3, TX3, 3), (RX4, TX4, 11), (RX5, TX5, 4), (RX6, TX6, 4), (RX7, TX7, 5), (RX8, TX8, 7), (RX9, TX9, 5), (RX10, TX10, 10), (RX11, TX11, 56)]
def RJ0 : String := "java/lang/String"
def RJ1 : String := "java/lang/StringLatin1"
def RJ6 : String := "java/lang/Integer"
def RJ7 : String := "java/util/Arrays"
abbrev cX0_init : ByteArray := prog_2_method_1_code
def yX0_init : MethodName := ⟨RX0, "<init>", "(LShornSins$Other;)V"⟩
abbrev cX0_unsettle : ByteArray := prog_2_method_2_code
def yX0_unsettle : MethodName := ⟨RX0, "unsettle", "()V"⟩
abbrev cX0_above : ByteArray := prog_2_method_3_code
def yX0_above : MethodName := ⟨RX0, "above", "(I)J"⟩
abbrev cX0_below : ByteArray := prog_2_method_4_code
def yX0_below : MethodName := ⟨RX0, "below", "(I)J"⟩
abbrev cX0_findLiving : ByteArray := prog_2_method_5_code
def yX0_findLiving : MethodName := ⟨RX0, "findLiving", "(II)V"⟩
abbrev cX0_supposeFrosts : ByteArray := prog_2_method_6_code
def yX0_supposeFrosts : MethodName := ⟨RX0, "supposeFrosts", "(II)V"⟩
abbrev cX0_addToLiving : ByteArray := prog_2_method_7_code
def yX0_addToLiving : MethodName := ⟨RX0, "addToLiving", "(J)V"⟩
abbrev cX0_reduce : ByteArray := prog_2_method_8_code
def yX0_reduce : MethodName := ⟨RX0, "reduce", "(I)V"⟩
abbrev cX0_power : ByteArray := prog_2_method_9_code
def yX0_power : MethodName := ⟨RX0, "power", "(II)J"⟩
abbrev cX0_runYears : ByteArray := prog_2_method_10_code
def yX0_runYears : MethodName := ⟨RX0, "runYears", "(II)V"⟩
abbrev cX0_lot : ByteArray := prog_2_method_11_code
def yX0_lot : MethodName := ⟨RX0, "lot", "(I)I"⟩
abbrev cX1_init : ByteArray := prog_3_method_1_code
def yX1_init : MethodName := ⟨RX1, "<init>", "()V"⟩
abbrev cX1_begin : ByteArray := prog_3_method_2_code
def yX1_begin : MethodName := ⟨RX1, "begin", "()V"⟩
abbrev cX1_goOn : ByteArray := prog_3_method_3_code
def yX1_goOn : MethodName := ⟨RX1, "goOn", "(I)Z"⟩
abbrev cX1_takeOutOf : ByteArray := prog_3_method_4_code
def yX1_takeOutOf : MethodName := ⟨RX1, "takeOutOf", "(LShornSins$Rows;)V"⟩
abbrev cX1_tell : ByteArray := prog_3_method_5_code
def yX1_tell : MethodName := ⟨RX1, "tell", "(I)I"⟩
abbrev cX2_init : ByteArray := prog_4_method_1_code
def yX2_init : MethodName := ⟨RX2, "<init>", "(LShornSins$Told;)V"⟩
abbrev cX2_run : ByteArray := prog_4_method_2_code
def yX2_run : MethodName := ⟨RX2, "run", "(I)V"⟩
abbrev cX2_begin : ByteArray := prog_4_method_3_code
def yX2_begin : MethodName := ⟨RX2, "begin", "()V"⟩
abbrev cX2_monthsOf : ByteArray := prog_4_method_4_code
def yX2_monthsOf : MethodName := ⟨RX2, "monthsOf", "(LShornSins$Rows;)I"⟩
abbrev cX2_doDeeds : ByteArray := prog_4_method_5_code
def yX2_doDeeds : MethodName := ⟨RX2, "doDeeds", "(I)I"⟩
abbrev cX2_growth : ByteArray := prog_4_method_6_code
def yX2_growth : MethodName := ⟨RX2, "growth", "(II)I"⟩
abbrev cX2_moult : ByteArray := prog_4_method_7_code
def yX2_moult : MethodName := ⟨RX2, "moult", "(I)V"⟩
abbrev cX2_travel : ByteArray := prog_4_method_8_code
def yX2_travel : MethodName := ⟨RX2, "travel", "(I)V"⟩
abbrev cX2_makeRounds : ByteArray := prog_4_method_9_code
def yX2_makeRounds : MethodName := ⟨RX2, "makeRounds", "(IZ)V"⟩
abbrev cX2_woolliestIn : ByteArray := prog_4_method_10_code
def yX2_woolliestIn : MethodName := ⟨RX2, "woolliestIn", "(I)I"⟩
abbrev cX2_shear : ByteArray := prog_4_method_11_code
def yX2_shear : MethodName := ⟨RX2, "shear", "(IIZ)V"⟩
abbrev cX2_lives : ByteArray := prog_4_method_12_code
def yX2_lives : MethodName := ⟨RX2, "lives", "(I)Z"⟩
abbrev cX2_livesBehind : ByteArray := prog_4_method_13_code
def yX2_livesBehind : MethodName := ⟨RX2, "livesBehind", "(II)Z"⟩
abbrev cX2_behind : ByteArray := prog_4_method_14_code
def yX2_behind : MethodName := ⟨RX2, "behind", "(II)I"⟩
abbrev cX2_deathOf : ByteArray := prog_4_method_15_code
def yX2_deathOf : MethodName := ⟨RX2, "deathOf", "(I)I"⟩
abbrev cX2_living : ByteArray := prog_4_method_16_code
def yX2_living : MethodName := ⟨RX2, "living", "()I"⟩
abbrev cX2_taxBehind : ByteArray := prog_4_method_17_code
def yX2_taxBehind : MethodName := ⟨RX2, "taxBehind", "(I)I"⟩
abbrev cX2_heaviestBehind : ByteArray := prog_4_method_18_code
def yX2_heaviestBehind : MethodName := ⟨RX2, "heaviestBehind", "(I)I"⟩
abbrev cX2_worthInAll : ByteArray := prog_4_method_19_code
def yX2_worthInAll : MethodName := ⟨RX2, "worthInAll", "()I"⟩
abbrev cX3_init : ByteArray := prog_5_method_1_code
def yX3_init : MethodName := ⟨RX3, "<init>", "(LShornSins$Told;)V"⟩
abbrev cX3_afresh : ByteArray := prog_5_method_2_code
def yX3_afresh : MethodName := ⟨RX3, "afresh", "()V"⟩
abbrev cX4_init : ByteArray := prog_6_method_1_code
def yX4_init : MethodName := ⟨RX4, "<init>", "(LShornSins$Other;)V"⟩
abbrev cX4_unsettle : ByteArray := prog_6_method_2_code
def yX4_unsettle : MethodName := ⟨RX4, "unsettle", "()V"⟩
abbrev cX4_findRound : ByteArray := prog_6_method_3_code
def yX4_findRound : MethodName := ⟨RX4, "findRound", "(I)V"⟩
abbrev cX4_fewestDeeds : ByteArray := prog_6_method_4_code
def yX4_fewestDeeds : MethodName := ⟨RX4, "fewestDeeds", "(III)I"⟩
abbrev cX4_measure : ByteArray := prog_6_method_5_code
def yX4_measure : MethodName := ⟨RX4, "measure", "(I)V"⟩
abbrev cX4_fewestRounds : ByteArray := prog_6_method_6_code
def yX4_fewestRounds : MethodName := ⟨RX4, "fewestRounds", "(I)I"⟩
abbrev cX4_findHome : ByteArray := prog_6_method_7_code
def yX4_findHome : MethodName := ⟨RX4, "findHome", "(I)V"⟩
abbrev cX5_init : ByteArray := prog_7_method_1_code
def yX5_init : MethodName := ⟨RX5, "<init>", "(I)V"⟩
abbrev cX5_append : ByteArray := prog_7_method_2_code
def yX5_append : MethodName := ⟨RX5, "append", "(III)I"⟩
abbrev cX5_cell : ByteArray := prog_7_method_3_code
def yX5_cell : MethodName := ⟨RX5, "cell", "(II)I"⟩
abbrev cX5_setCell : ByteArray := prog_7_method_4_code
def yX5_setCell : MethodName := ⟨RX5, "setCell", "(III)V"⟩
abbrev cX5_takeOut : ByteArray := prog_7_method_5_code
def yX5_takeOut : MethodName := ⟨RX5, "takeOut", "(I)V"⟩
abbrev cX5_become : ByteArray := prog_7_method_6_code
def yX5_become : MethodName := ⟨RX5, "become", "(LShornSins$Rows;)V"⟩
abbrev cX6_init : ByteArray := prog_8_method_1_code
def yX6_init : MethodName := ⟨RX6, "<init>", "()V"⟩
abbrev cX6_finding : ByteArray := prog_8_method_2_code
def yX6_finding : MethodName := ⟨RX6, "finding", "(I)I"⟩
abbrev cX6_isLost : ByteArray := prog_8_method_3_code
def yX6_isLost : MethodName := ⟨RX6, "isLost", "(I)Z"⟩
abbrev cX6_length : ByteArray := prog_8_method_4_code
def yX6_length : MethodName := ⟨RX6, "length", "(I)I"⟩
abbrev cX6_renew : ByteArray := prog_8_method_5_code
def yX6_renew : MethodName := ⟨RX6, "renew", "(III)I"⟩
abbrev cX6_drop : ByteArray := prog_8_method_6_code
def yX6_drop : MethodName := ⟨RX6, "drop", "(I)I"⟩
abbrev cX6_holds : ByteArray := prog_8_method_7_code
def yX6_holds : MethodName := ⟨RX6, "holds", "(III)Z"⟩
abbrev cX6_alike : ByteArray := prog_8_method_8_code
def yX6_alike : MethodName := ⟨RX6, "alike", "(II)Z"⟩
abbrev cX6_faultAt : ByteArray := prog_8_method_9_code
def yX6_faultAt : MethodName := ⟨RX6, "faultAt", "(III)I"⟩
abbrev cX6_item : ByteArray := prog_8_method_10_code
def yX6_item : MethodName := ⟨RX6, "item", "(II)I"⟩
abbrev cX6_store : ByteArray := prog_8_method_11_code
def yX6_store : MethodName := ⟨RX6, "store", "(III)V"⟩
abbrev cX6_move : ByteArray := prog_8_method_12_code
def yX6_move : MethodName := ⟨RX6, "move", "(IIIII)V"⟩
abbrev cX7_init : ByteArray := prog_9_method_1_code
def yX7_init : MethodName := ⟨RX7, "<init>", "(ILjava/lang/String;Ljava/lang/String;Ljava/lang/String;)V"⟩
abbrev cX7_append : ByteArray := prog_9_method_2_code
def yX7_append : MethodName := ⟨RX7, "append", "(I)I"⟩
abbrev cX7_faultPlace : ByteArray := prog_9_method_3_code
def yX7_faultPlace : MethodName := ⟨RX7, "faultPlace", "()I"⟩
abbrev cX7_readInto : ByteArray := prog_9_method_4_code
def yX7_readInto : MethodName := ⟨RX7, "readInto", "(LShornSins$Rows;)V"⟩
abbrev cX7_meaningAt : ByteArray := prog_9_method_5_code
def yX7_meaningAt : MethodName := ⟨RX7, "meaningAt", "(I)I"⟩
abbrev cX7_signsAt : ByteArray := prog_9_method_6_code
def yX7_signsAt : MethodName := ⟨RX7, "signsAt", "(I)Ljava/lang/String;"⟩
abbrev cX8_init : ByteArray := prog_10_method_1_code
def yX8_init : MethodName := ⟨RX8, "<init>", "()V"⟩
abbrev cX8_become : ByteArray := prog_10_method_2_code
def yX8_become : MethodName := ⟨RX8, "become", "(LShornSins$Told;)V"⟩
abbrev cX9_init : ByteArray := prog_11_method_1_code
def yX9_init : MethodName := ⟨RX9, "<init>", "(LShornSins$Other;)V"⟩
abbrev cX9_unsettle : ByteArray := prog_11_method_2_code
def yX9_unsettle : MethodName := ⟨RX9, "unsettle", "()V"⟩
abbrev cX9_survey : ByteArray := prog_11_method_3_code
def yX9_survey : MethodName := ⟨RX9, "survey", "()V"⟩
abbrev cX9_keepWools : ByteArray := prog_11_method_4_code
def yX9_keepWools : MethodName := ⟨RX9, "keepWools", "(I)V"⟩
abbrev cX9_placeOf : ByteArray := prog_11_method_5_code
def yX9_placeOf : MethodName := ⟨RX9, "placeOf", "(III)I"⟩
abbrev cX9_fitting : ByteArray := prog_11_method_6_code
def yX9_fitting : MethodName := ⟨RX9, "fitting", "(III)I"⟩
abbrev cX9_lastSeen : ByteArray := prog_11_method_7_code
def yX9_lastSeen : MethodName := ⟨RX9, "lastSeen", "()I"⟩
abbrev cX9_comesOut : ByteArray := prog_11_method_8_code
def yX9_comesOut : MethodName := ⟨RX9, "comesOut", "()Z"⟩
abbrev cX9_monthToAsk : ByteArray := prog_11_method_9_code
def yX9_monthToAsk : MethodName := ⟨RX9, "monthToAsk", "(I)I"⟩
abbrev cX9_mostAlike : ByteArray := prog_11_method_10_code
def yX9_mostAlike : MethodName := ⟨RX9, "mostAlike", "(II)I"⟩
abbrev cX9_manyLike : ByteArray := prog_11_method_11_code
def yX9_manyLike : MethodName := ⟨RX9, "manyLike", "(III)I"⟩
abbrev cX10_init : ByteArray := prog_1_method_1_code
def yX10_init : MethodName := ⟨RX10, "<init>", "()V"⟩
abbrev cX10_type : ByteArray := prog_1_method_2_code
def yX10_type : MethodName := ⟨RX10, "type", "(II)I"⟩
abbrev cX10_wipe : ByteArray := prog_1_method_3_code
def yX10_wipe : MethodName := ⟨RX10, "wipe", "(I)I"⟩
abbrev cX10_undo : ByteArray := prog_1_method_4_code
def yX10_undo : MethodName := ⟨RX10, "undo", "(I)I"⟩
abbrev cX10_fault : ByteArray := prog_1_method_5_code
def yX10_fault : MethodName := ⟨RX10, "fault", "(I)I"⟩
abbrev cX10_person : ByteArray := prog_1_method_6_code
def yX10_person : MethodName := ⟨RX10, "person", "(II)I"⟩
abbrev cX10_deed : ByteArray := prog_1_method_7_code
def yX10_deed : MethodName := ⟨RX10, "deed", "(II)I"⟩
abbrev cX10_set : ByteArray := prog_1_method_8_code
def yX10_set : MethodName := ⟨RX10, "set", "(II)I"⟩
abbrev cX10_round : ByteArray := prog_1_method_9_code
def yX10_round : MethodName := ⟨RX10, "round", "(III)I"⟩
abbrev cX10_journey : ByteArray := prog_1_method_10_code
def yX10_journey : MethodName := ⟨RX10, "journey", "(III)I"⟩
abbrev cX10_frost : ByteArray := prog_1_method_11_code
def yX10_frost : MethodName := ⟨RX10, "frost", "(I)I"⟩
abbrev cX10_back : ByteArray := prog_1_method_12_code
def yX10_back : MethodName := ⟨RX10, "back", "(I)I"⟩
abbrev cX10_read : ByteArray := prog_1_method_13_code
def yX10_read : MethodName := ⟨RX10, "read", "(I)I"⟩
abbrev cX10_wool : ByteArray := prog_1_method_14_code
def yX10_wool : MethodName := ⟨RX10, "wool", "(III)I"⟩
abbrev cX10_dies : ByteArray := prog_1_method_15_code
def yX10_dies : MethodName := ⟨RX10, "dies", "(I)I"⟩
abbrev cX10_cloth : ByteArray := prog_1_method_16_code
def yX10_cloth : MethodName := ⟨RX10, "cloth", "(III)I"⟩
abbrev cX10_thorn : ByteArray := prog_1_method_17_code
def yX10_thorn : MethodName := ⟨RX10, "thorn", "(I)I"⟩
abbrev cX10_tax : ByteArray := prog_1_method_18_code
def yX10_tax : MethodName := ⟨RX10, "tax", "(I)I"⟩
abbrev cX10_heaviest : ByteArray := prog_1_method_19_code
def yX10_heaviest : MethodName := ⟨RX10, "heaviest", "(I)I"⟩
abbrev cX10_first : ByteArray := prog_1_method_20_code
def yX10_first : MethodName := ⟨RX10, "first", "(I)I"⟩
abbrev cX10_plan : ByteArray := prog_1_method_21_code
def yX10_plan : MethodName := ⟨RX10, "plan", "(II)I"⟩
abbrev cX10_light : ByteArray := prog_1_method_22_code
def yX10_light : MethodName := ⟨RX10, "light", "(III)I"⟩
abbrev cX10_spare : ByteArray := prog_1_method_23_code
def yX10_spare : MethodName := ⟨RX10, "spare", "(I)I"⟩
abbrev cX10_home : ByteArray := prog_1_method_24_code
def yX10_home : MethodName := ⟨RX10, "home", "(II)I"⟩
abbrev cX10_seen : ByteArray := prog_1_method_25_code
def yX10_seen : MethodName := ⟨RX10, "seen", "(III)I"⟩
abbrev cX10_forget : ByteArray := prog_1_method_26_code
def yX10_forget : MethodName := ⟨RX10, "forget", "()I"⟩
abbrev cX10_never : ByteArray := prog_1_method_27_code
def yX10_never : MethodName := ⟨RX10, "never", "()I"⟩
abbrev cX10_was : ByteArray := prog_1_method_28_code
def yX10_was : MethodName := ⟨RX10, "was", "(II)I"⟩
abbrev cX10_ask : ByteArray := prog_1_method_29_code
def yX10_ask : MethodName := ⟨RX10, "ask", "(I)I"⟩
abbrev cX10_virtue : ByteArray := prog_1_method_30_code
def yX10_virtue : MethodName := ⟨RX10, "virtue", "(IIII)J"⟩
abbrev cX10_years : ByteArray := prog_1_method_31_code
def yX10_years : MethodName := ⟨RX10, "years", "(III)I"⟩
abbrev cX10_sheet : ByteArray := prog_1_method_32_code
def yX10_sheet : MethodName := ⟨RX10, "sheet", "(III)I"⟩
abbrev cX10_lose : ByteArray := prog_1_method_33_code
def yX10_lose : MethodName := ⟨RX10, "lose", "(I)I"⟩
abbrev cX10_put : ByteArray := prog_1_method_34_code
def yX10_put : MethodName := ⟨RX10, "put", "(IIII)I"⟩
abbrev cX10_get : ByteArray := prog_1_method_35_code
def yX10_get : MethodName := ⟨RX10, "get", "(III)I"⟩
abbrev cX10_copy : ByteArray := prog_1_method_36_code
def yX10_copy : MethodName := ⟨RX10, "copy", "(IIIII)I"⟩
abbrev cX10_write : ByteArray := prog_1_method_37_code
def yX10_write : MethodName := ⟨RX10, "write", "(II)I"⟩
abbrev cX10_count : ByteArray := prog_1_method_38_code
def yX10_count : MethodName := ⟨RX10, "count", "(I)I"⟩
abbrev cX10_digest : ByteArray := prog_1_method_39_code
def yX10_digest : MethodName := ⟨RX10, "digest", "()J"⟩
abbrev cX10_digestPerson : ByteArray := prog_1_method_40_code
def yX10_digestPerson : MethodName := ⟨RX10, "digestPerson", "(JI)J"⟩
abbrev cX10_within : ByteArray := prog_1_method_41_code
def yX10_within : MethodName := ⟨RX10, "within", "(III)Z"⟩
abbrev cX10_isMonth : ByteArray := prog_1_method_42_code
def yX10_isMonth : MethodName := ⟨RX10, "isMonth", "(I)Z"⟩
abbrev cX10_isCounty : ByteArray := prog_1_method_43_code
def yX10_isCounty : MethodName := ⟨RX10, "isCounty", "(I)Z"⟩
abbrev cX10_isSheet : ByteArray := prog_1_method_44_code
def yX10_isSheet : MethodName := ⟨RX10, "isSheet", "(I)Z"⟩
abbrev cX10_isPerson : ByteArray := prog_1_method_45_code
def yX10_isPerson : MethodName := ⟨RX10, "isPerson", "(I)Z"⟩
abbrev cX10_isDeed : ByteArray := prog_1_method_46_code
def yX10_isDeed : MethodName := ⟨RX10, "isDeed", "(I)Z"⟩
abbrev cX10_textOf : ByteArray := prog_1_method_47_code
def yX10_textOf : MethodName := ⟨RX10, "textOf", "(I)LShornSins$Text;"⟩
abbrev cX10_readTexts : ByteArray := prog_1_method_48_code
def yX10_readTexts : MethodName := ⟨RX10, "readTexts", "()V"⟩
abbrev cX10_unsettle : ByteArray := prog_1_method_49_code
def yX10_unsettle : MethodName := ⟨RX10, "unsettle", "()V"⟩
abbrev cX10_settle : ByteArray := prog_1_method_50_code
def yX10_settle : MethodName := ⟨RX10, "settle", "()V"⟩
abbrev cX11_init : ByteArray := prog_13_method_1_code
def yX11_init : MethodName := ⟨RX11, "<init>", "()V"⟩
abbrev cX11_in : ByteArray := prog_13_method_3_code
def yX11_in : MethodName := ⟨RX11, "in", "(III)Z"⟩
abbrev cX11_isIn : ByteArray := prog_13_method_4_code
def yX11_isIn : MethodName := ⟨RX11, "isIn", "(II)Z"⟩
abbrev cX11_no : ByteArray := prog_13_method_5_code
def yX11_no : MethodName := ⟨RX11, "no", "(I)J"⟩
abbrev cX11_lowest : ByteArray := prog_13_method_6_code
def yX11_lowest : MethodName := ⟨RX11, "lowest", "(JJI)J"⟩
abbrev cX11_isText : ByteArray := prog_13_method_7_code
def yX11_isText : MethodName := ⟨RX11, "isText", "(I)Z"⟩
abbrev cX11_isMonth : ByteArray := prog_13_method_8_code
def yX11_isMonth : MethodName := ⟨RX11, "isMonth", "(I)Z"⟩
abbrev cX11_isCounty : ByteArray := prog_13_method_9_code
def yX11_isCounty : MethodName := ⟨RX11, "isCounty", "(I)Z"⟩
abbrev cX11_type : ByteArray := prog_13_method_10_code
def yX11_type : MethodName := ⟨RX11, "type", "(II)I"⟩
abbrev cX11_wipe : ByteArray := prog_13_method_11_code
def yX11_wipe : MethodName := ⟨RX11, "wipe", "(I)I"⟩
abbrev cX11_undo : ByteArray := prog_13_method_12_code
def yX11_undo : MethodName := ⟨RX11, "undo", "(I)I"⟩
abbrev cX11_byteAt : ByteArray := prog_13_method_13_code
def yX11_byteAt : MethodName := ⟨RX11, "byteAt", "(II)I"⟩
abbrev cX11_readsPerson : ByteArray := prog_13_method_14_code
def yX11_readsPerson : MethodName := ⟨RX11, "readsPerson", "(II)I"⟩
abbrev cX11_readsDeed : ByteArray := prog_13_method_15_code
def yX11_readsDeed : MethodName := ⟨RX11, "readsDeed", "(II)I"⟩
abbrev cX11_readsParts : ByteArray := prog_13_method_16_code
def yX11_readsParts : MethodName := ⟨RX11, "readsParts", "(I)I"⟩
abbrev cX11_faultOf : ByteArray := prog_13_method_17_code
def yX11_faultOf : MethodName := ⟨RX11, "faultOf", "(I)I"⟩
abbrev cX11_reads : ByteArray := prog_13_method_18_code
def yX11_reads : MethodName := ⟨RX11, "reads", "()V"⟩
abbrev cX11_fault : ByteArray := prog_13_method_19_code
def yX11_fault : MethodName := ⟨RX11, "fault", "(I)I"⟩
abbrev cX11_isPerson : ByteArray := prog_13_method_20_code
def yX11_isPerson : MethodName := ⟨RX11, "isPerson", "(I)Z"⟩
abbrev cX11_isDeed : ByteArray := prog_13_method_21_code
def yX11_isDeed : MethodName := ⟨RX11, "isDeed", "(I)Z"⟩
abbrev cX11_personOf : ByteArray := prog_13_method_22_code
def yX11_personOf : MethodName := ⟨RX11, "personOf", "(II)I"⟩
abbrev cX11_person : ByteArray := prog_13_method_23_code
def yX11_person : MethodName := ⟨RX11, "person", "(II)I"⟩
abbrev cX11_deedOf : ByteArray := prog_13_method_24_code
def yX11_deedOf : MethodName := ⟨RX11, "deedOf", "(II)I"⟩
abbrev cX11_deed : ByteArray := prog_13_method_25_code
def yX11_deed : MethodName := ⟨RX11, "deed", "(II)I"⟩
abbrev cX11_set : ByteArray := prog_13_method_26_code
def yX11_set : MethodName := ⟨RX11, "set", "(II)I"⟩
abbrev cX11_round : ByteArray := prog_13_method_27_code
def yX11_round : MethodName := ⟨RX11, "round", "(III)I"⟩
abbrev cX11_journey : ByteArray := prog_13_method_28_code
def yX11_journey : MethodName := ⟨RX11, "journey", "(III)I"⟩
abbrev cX11_frost : ByteArray := prog_13_method_29_code
def yX11_frost : MethodName := ⟨RX11, "frost", "(I)I"⟩
abbrev cX11_back : ByteArray := prog_13_method_30_code
def yX11_back : MethodName := ⟨RX11, "back", "(I)I"⟩
abbrev cX11_read : ByteArray := prog_13_method_31_code
def yX11_read : MethodName := ⟨RX11, "read", "(I)I"⟩
abbrev cX11_asTold : ByteArray := prog_13_method_32_code
def yX11_asTold : MethodName := ⟨RX11, "asTold", "()V"⟩
abbrev cX11_lives : ByteArray := prog_13_method_33_code
def yX11_lives : MethodName := ⟨RX11, "lives", "(I)Z"⟩
abbrev cX11_weightOf : ByteArray := prog_13_method_34_code
def yX11_weightOf : MethodName := ⟨RX11, "weightOf", "(I)I"⟩
abbrev cX11_grows : ByteArray := prog_13_method_35_code
def yX11_grows : MethodName := ⟨RX11, "grows", "(I)V"⟩
abbrev cX11_goes : ByteArray := prog_13_method_36_code
def yX11_goes : MethodName := ⟨RX11, "goes", "(I)V"⟩
abbrev cX11_nextIn : ByteArray := prog_13_method_37_code
def yX11_nextIn : MethodName := ⟨RX11, "nextIn", "(I)I"⟩
abbrev cX11_shears : ByteArray := prog_13_method_38_code
def yX11_shears : MethodName := ⟨RX11, "shears", "(II)V"⟩
abbrev cX11_shearsAll : ByteArray := prog_13_method_39_code
def yX11_shearsAll : MethodName := ⟨RX11, "shearsAll", "(I)V"⟩
abbrev cX11_heaviestNow : ByteArray := prog_13_method_40_code
def yX11_heaviestNow : MethodName := ⟨RX11, "heaviestNow", "()I"⟩
abbrev cX11_keeps : ByteArray := prog_13_method_41_code
def yX11_keeps : MethodName := ⟨RX11, "keeps", "(I)V"⟩
abbrev cX11_runs : ByteArray := prog_13_method_42_code
def yX11_runs : MethodName := ⟨RX11, "runs", "()V"⟩
abbrev cX11_runsTold : ByteArray := prog_13_method_43_code
def yX11_runsTold : MethodName := ⟨RX11, "runsTold", "()V"⟩
abbrev cX11_woolOf : ByteArray := prog_13_method_44_code
def yX11_woolOf : MethodName := ⟨RX11, "woolOf", "(III)I"⟩
abbrev cX11_wool : ByteArray := prog_13_method_45_code
def yX11_wool : MethodName := ⟨RX11, "wool", "(III)I"⟩
abbrev cX11_diesOf : ByteArray := prog_13_method_46_code
def yX11_diesOf : MethodName := ⟨RX11, "diesOf", "(I)I"⟩
abbrev cX11_dies : ByteArray := prog_13_method_47_code
def yX11_dies : MethodName := ⟨RX11, "dies", "(I)I"⟩
abbrev cX11_clothOf : ByteArray := prog_13_method_48_code
def yX11_clothOf : MethodName := ⟨RX11, "clothOf", "(III)I"⟩
abbrev cX11_cloth : ByteArray := prog_13_method_49_code
def yX11_cloth : MethodName := ⟨RX11, "cloth", "(III)I"⟩
abbrev cX11_thornOf : ByteArray := prog_13_method_50_code
def yX11_thornOf : MethodName := ⟨RX11, "thornOf", "(I)I"⟩
abbrev cX11_thorn : ByteArray := prog_13_method_51_code
def yX11_thorn : MethodName := ⟨RX11, "thorn", "(I)I"⟩
abbrev cX11_taxOf : ByteArray := prog_13_method_52_code
def yX11_taxOf : MethodName := ⟨RX11, "taxOf", "(I)I"⟩
abbrev cX11_tax : ByteArray := prog_13_method_53_code
def yX11_tax : MethodName := ⟨RX11, "tax", "(I)I"⟩
abbrev cX11_heaviestOf : ByteArray := prog_13_method_54_code
def yX11_heaviestOf : MethodName := ⟨RX11, "heaviestOf", "(I)I"⟩
abbrev cX11_heaviest : ByteArray := prog_13_method_55_code
def yX11_heaviest : MethodName := ⟨RX11, "heaviest", "(I)I"⟩
abbrev cX11_firstOf : ByteArray := prog_13_method_56_code
def yX11_firstOf : MethodName := ⟨RX11, "firstOf", "(I)I"⟩
abbrev cX11_first : ByteArray := prog_13_method_57_code
def yX11_first : MethodName := ⟨RX11, "first", "(I)I"⟩
abbrev cX11_worthAll : ByteArray := prog_13_method_58_code
def yX11_worthAll : MethodName := ⟨RX11, "worthAll", "()I"⟩
abbrev cX11_planOf : ByteArray := prog_13_method_59_code
def yX11_planOf : MethodName := ⟨RX11, "planOf", "(II)I"⟩
abbrev cX11_plan : ByteArray := prog_13_method_60_code
def yX11_plan : MethodName := ⟨RX11, "plan", "(II)I"⟩
abbrev cX11_ofRow : ByteArray := prog_13_method_61_code
def yX11_ofRow : MethodName := ⟨RX11, "ofRow", "(II)I"⟩
abbrev cX11_isLight : ByteArray := prog_13_method_62_code
def yX11_isLight : MethodName := ⟨RX11, "isLight", "(III)Z"⟩
abbrev cX11_lightBy : ByteArray := prog_13_method_63_code
def yX11_lightBy : MethodName := ⟨RX11, "lightBy", "(II)I"⟩
abbrev cX11_light : ByteArray := prog_13_method_64_code
def yX11_light : MethodName := ⟨RX11, "light", "(III)I"⟩
abbrev cX11_livesMany : ByteArray := prog_13_method_65_code
def yX11_livesMany : MethodName := ⟨RX11, "livesMany", "()I"⟩
abbrev cX11_isSpared : ByteArray := prog_13_method_66_code
def yX11_isSpared : MethodName := ⟨RX11, "isSpared", "(I)Z"⟩
abbrev cX11_spareBy : ByteArray := prog_13_method_67_code
def yX11_spareBy : MethodName := ⟨RX11, "spareBy", "()I"⟩
abbrev cX11_spare : ByteArray := prog_13_method_68_code
def yX11_spare : MethodName := ⟨RX11, "spare", "(I)I"⟩
abbrev cX11_homeOf : ByteArray := prog_13_method_69_code
def yX11_homeOf : MethodName := ⟨RX11, "homeOf", "(II)I"⟩
abbrev cX11_home : ByteArray := prog_13_method_70_code
def yX11_home : MethodName := ⟨RX11, "home", "(II)I"⟩
abbrev cX11_seen : ByteArray := prog_13_method_71_code
def yX11_seen : MethodName := ⟨RX11, "seen", "(III)I"⟩
abbrev cX11_forget : ByteArray := prog_13_method_72_code
def yX11_forget : MethodName := ⟨RX11, "forget", "()I"⟩
abbrev cX11_isSeen : ByteArray := prog_13_method_73_code
def yX11_isSeen : MethodName := ⟨RX11, "isSeen", "()Z"⟩
abbrev cX11_neverNow : ByteArray := prog_13_method_74_code
def yX11_neverNow : MethodName := ⟨RX11, "neverNow", "()I"⟩
abbrev cX11_never : ByteArray := prog_13_method_75_code
def yX11_never : MethodName := ⟨RX11, "never", "()I"⟩
abbrev cX11_wasOf : ByteArray := prog_13_method_76_code
def yX11_wasOf : MethodName := ⟨RX11, "wasOf", "(II)I"⟩
abbrev cX11_was : ByteArray := prog_13_method_77_code
def yX11_was : MethodName := ⟨RX11, "was", "(II)I"⟩
abbrev cX11_askOf : ByteArray := prog_13_method_78_code
def yX11_askOf : MethodName := ⟨RX11, "askOf", "(I)I"⟩
abbrev cX11_ask : ByteArray := prog_13_method_79_code
def yX11_ask : MethodName := ⟨RX11, "ask", "(I)I"⟩
abbrev cX11_virtueOf : ByteArray := prog_13_method_80_code
def yX11_virtueOf : MethodName := ⟨RX11, "virtueOf", "(IIII)J"⟩
abbrev cX11_virtue : ByteArray := prog_13_method_81_code
def yX11_virtue : MethodName := ⟨RX11, "virtue", "(IIII)J"⟩
abbrev cX11_yearsOf : ByteArray := prog_13_method_82_code
def yX11_yearsOf : MethodName := ⟨RX11, "yearsOf", "(III)I"⟩
abbrev cX11_years : ByteArray := prog_13_method_83_code
def yX11_years : MethodName := ⟨RX11, "years", "(III)I"⟩
abbrev cX11_meets : ByteArray := prog_13_method_84_code
def yX11_meets : MethodName := ⟨RX11, "meets", "(I)I"⟩
abbrev cX11_isSheet : ByteArray := prog_13_method_85_code
def yX11_isSheet : MethodName := ⟨RX11, "isSheet", "(I)Z"⟩
abbrev cX11_sheet : ByteArray := prog_13_method_86_code
def yX11_sheet : MethodName := ⟨RX11, "sheet", "(III)I"⟩
abbrev cX11_lose : ByteArray := prog_13_method_87_code
def yX11_lose : MethodName := ⟨RX11, "lose", "(I)I"⟩
abbrev cX11_lacks : ByteArray := prog_13_method_88_code
def yX11_lacks : MethodName := ⟨RX11, "lacks", "(III)I"⟩
abbrev cX11_keep : ByteArray := prog_13_method_89_code
def yX11_keep : MethodName := ⟨RX11, "keep", "(III)V"⟩
abbrev cX11_put : ByteArray := prog_13_method_90_code
def yX11_put : MethodName := ⟨RX11, "put", "(IIII)I"⟩
abbrev cX11_get : ByteArray := prog_13_method_91_code
def yX11_get : MethodName := ⟨RX11, "get", "(III)I"⟩
abbrev cX11_copy : ByteArray := prog_13_method_92_code
def yX11_copy : MethodName := ⟨RX11, "copy", "(IIIII)I"⟩
abbrev cX11_write : ByteArray := prog_13_method_93_code
def yX11_write : MethodName := ⟨RX11, "write", "(II)I"⟩
abbrev cX11_sumOf : ByteArray := prog_13_method_94_code
def yX11_sumOf : MethodName := ⟨RX11, "sumOf", "(I)I"⟩
abbrev cX11_count : ByteArray := prog_13_method_95_code
def yX11_count : MethodName := ⟨RX11, "count", "(I)I"⟩
abbrev cX11_monthDigest : ByteArray := prog_13_method_96_code
def yX11_monthDigest : MethodName := ⟨RX11, "monthDigest", "(JII)J"⟩
abbrev cX11_personDigest : ByteArray := prog_13_method_97_code
def yX11_personDigest : MethodName := ⟨RX11, "personDigest", "(JI)J"⟩
abbrev cX11_deedDigest : ByteArray := prog_13_method_98_code
def yX11_deedDigest : MethodName := ⟨RX11, "deedDigest", "(JI)J"⟩
abbrev cX11_countyDigest : ByteArray := prog_13_method_99_code
def yX11_countyDigest : MethodName := ⟨RX11, "countyDigest", "(JI)J"⟩
abbrev cX11_thornDigest : ByteArray := prog_13_method_100_code
def yX11_thornDigest : MethodName := ⟨RX11, "thornDigest", "(JI)J"⟩
abbrev cX11_digest : ByteArray := prog_13_method_101_code
def yX11_digest : MethodName := ⟨RX11, "digest", "()J"⟩
abbrev cJ6_bitCount_0f7a4 : ByteArray := prog_15_method_49_code
def yJ6_bitCount_0f7a4 : MethodName := ⟨RJ6, "bitCount", "(I)I"⟩
abbrev cJ0_length_8abf5 : ByteArray := prog_17_method_54_code
def yJ0_length_8abf5 : MethodName := ⟨RJ0, "length", "()I"⟩
abbrev cJ0_indexOf_0f7a4 : ByteArray := prog_17_method_79_code
def yJ0_indexOf_0f7a4 : MethodName := ⟨RJ0, "indexOf", "(I)I"⟩
abbrev cJ0_indexOf_7cf53 : ByteArray := prog_17_method_80_code
def yJ0_indexOf_7cf53 : MethodName := ⟨RJ0, "indexOf", "(II)I"⟩
abbrev cJ0_coder_7d493 : ByteArray := prog_17_method_152_code
def yJ0_coder_7d493 : MethodName := ⟨RJ0, "coder", "()B"⟩
abbrev cJ0_isLatin1_aae02 : ByteArray := prog_17_method_154_code
def yJ0_isLatin1_aae02 : MethodName := ⟨RJ0, "isLatin1", "()Z"⟩
abbrev cJ1_canEncode_9a6ad : ByteArray := prog_18_method_4_code
def yJ1_canEncode_9a6ad : MethodName := ⟨RJ1, "canEncode", "(I)Z"⟩
abbrev cJ1_indexOf_4cfef : ByteArray := prog_18_method_22_code
def yJ1_indexOf_4cfef : MethodName := ⟨RJ1, "indexOf", "([BIII)I"⟩
abbrev cJ1_indexOfChar_4cfef : ByteArray := prog_18_method_23_code
def yJ1_indexOfChar_4cfef : MethodName := ⟨RJ1, "indexOfChar", "([BIII)I"⟩
abbrev cJ7_fill_d0a16 : ByteArray := prog_21_method_101_code
def yJ7_fill_d0a16 : MethodName := ⟨RJ7, "fill", "([JJ)V"⟩
abbrev cJ7_fill_53178 : ByteArray := prog_21_method_103_code
def yJ7_fill_53178 : MethodName := ⟨RJ7, "fill", "([II)V"⟩
end
section
/-! THE PLAIN MACHINE. The whole system's cells, by numbers of their own (0, 1 ..: in the order in which they are made): a shape that stays (zK), whole numbers that change (zS, zL). -/
abbrev zS : Type := Nat → Nat → Int32
abbrev zL : Type := Nat → Nat → Int64
/-- a cell's shape: an array (0 of ints, 1 of longs, 2 of booleans; its length) or an object (its class; its fields: a number, null, a reference) -/
abbrev zK : Type := (Nat × Nat) ⊕ (Nat × List (Option (Option Nat)))
abbrev zA : Type := ClassId × ClassId × ClassId
def zc {α : Type} (S : Nat → α) (k : Nat) (f : α) : Nat → α := fun j => if j = k then f else S j
theorem zc_eq {α : Type} (S : Nat → α) (k : Nat) (f : α) : zc S k f k = f := if_pos rfl
theorem zc_ne {α : Type} (S : Nat → α) {k j : Nat} (f : α) (h : j ≠ k) : zc S k f j = S j := if_neg h
/-- a reference by its number -/
def zv (ad : Nat → Nat) : Value → Value
  | .ref a => .ref (ad a)
  | v => v
def zf (ad : Nat → Nat) (S : zS) (k j : Nat) : Option (Option Nat) → Value
  | none => .int (S k j)
  | some r => va_rf (r.map ad)
def ze (ad : Nat → Nat) (cs : zA) (S : zS) (L : zL) (k : Nat) : zK → va_E
  | .inl (0, n) => .inl (cs.1, n, .inl (S k))
  | .inl (1, n) => .inl (cs.2.1, n, .inr (.inl (L k)))
  | .inl (_ + 2, n) => .inl (cs.2.2, n, .inl (S k))
  | .inr (ci, fl) => .inr (ci, fl.mapIdx (zf ad S k))
def zw (ad : Nat → Nat) (cs : zA) (sk : List zK) (S : zS) (L : zL) : va_W := sk.mapIdx (fun k c => (ad k, ze ad cs S L k c))
theorem zw_get {ad : Nat → Nat} {cs : zA} {sk : List zK} {S : zS} {L : zL} {k : Nat} {c : zK} (h : sk[k]? = some c) : (zw ad cs sk S L)[k]? = some (ad k, ze ad cs S L k c) := by
  simp [zw, List.getElem?_mapIdx, h]
theorem ze_congr {ad : Nat → Nat} {cs : zA} {S S' : zS} {L L' : zL} {k : Nat} (hS : S' k = S k) (hL : L' k = L k) (c : zK) : ze ad cs S' L' k c = ze ad cs S L k c := by
  match c with
  | .inl (0, n) => simp [ze, hS]
  | .inl (1, n) => simp [ze, hL]
  | .inl (_ + 2, n) => simp [ze, hS]
  | .inr (ci, fl) =>
    have e : zf ad S' k = zf ad S k := by
      funext j f
      cases f with
      | none => simp [zf, hS]
      | some r => rfl
    simp [ze, e]
/-- one cell's contents or shape is another -/
theorem zw_set {ad : Nat → Nat} {cs : zA} {sk : List zK} {S S' : zS} {L L' : zL} {k : Nat} {c c' : zK} (h : sk[k]? = some c) (hS : ∀ i, i ≠ k → S' i = S i) (hL : ∀ i, i ≠ k → L' i = L i) : (zw ad cs sk S L).set k (ad k, ze ad cs S' L' k c') = zw ad cs (sk.set k c') S' L' := by
  have hk : k < sk.length := (List.getElem?_eq_some_iff.mp h).1
  apply List.ext_getElem?
  intro i
  by_cases hi : i = k
  · subst hi
    rw [List.getElem?_set_self (by simp [zw]; exact hk), zw_get (by rw [List.getElem?_set_self hk])]
  · rw [List.getElem?_set_ne (Ne.symm hi)]
    simp only [zw, List.getElem?_mapIdx, List.getElem?_set_ne (Ne.symm hi)]
    cases sk[i]? with
    | none => rfl
    | some c2 => simp [ze_congr (hS i hi) (hL i hi)]
theorem zw_set1 {ad : Nat → Nat} {cs : zA} {sk : List zK} {S S' : zS} {L L' : zL} {k : Nat} {c : zK} (h : sk[k]? = some c) (hS : ∀ i, i ≠ k → S' i = S i) (hL : ∀ i, i ≠ k → L' i = L i) : (zw ad cs sk S L).set k (ad k, ze ad cs S' L' k c) = zw ad cs sk S' L' := by
  rw [zw_set h hS hL]
  congr 1
  apply List.ext_getElem?
  intro i
  by_cases hi : i = k
  · subst hi
    rw [List.getElem?_set_self (List.getElem?_eq_some_iff.mp h).1, h]
  · rw [List.getElem?_set_ne (Ne.symm hi)]
theorem zf_set {ad : Nat → Nat} {S : zS} {k j : Nat} {fl : List (Option (Option Nat))} {x : Int32} (h : fl[j]? = some none) : (fl.mapIdx (zf ad S k)).set j (.int x) = fl.mapIdx (zf ad (zc S k (upd (S k) j x)) k) := by
  have hj : j < fl.length := (List.getElem?_eq_some_iff.mp h).1
  apply List.ext_getElem?
  intro i
  by_cases hi : i = j
  · subst hi
    rw [List.getElem?_set_self (by simp; exact hj)]
    simp [List.getElem?_mapIdx, h, zf, zc, upd]
  · rw [List.getElem?_set_ne (Ne.symm hi)]
    simp only [List.getElem?_mapIdx]
    cases fl[i]? with
    | none => rfl
    | some f => cases f <;> simp [zf, zc, upd, hi]
theorem zf_setR {ad : Nat → Nat} {S : zS} {k j r : Nat} {fl : List (Option (Option Nat))} (h : j < fl.length) : (fl.mapIdx (zf ad S k)).set j (.ref (ad r)) = (fl.set j (some (some r))).mapIdx (zf ad S k) := by
  apply List.ext_getElem?
  intro i
  by_cases hi : i = j
  · subst hi
    have h2 : i < (fl.mapIdx (zf ad S k)).length := by simp; exact h
    rw [List.getElem?_set_self h2, List.getElem?_mapIdx, List.getElem?_set_self h]
    rfl
  · rw [List.getElem?_set_ne (Ne.symm hi)]
    simp only [List.getElem?_mapIdx, List.getElem?_set_ne (Ne.symm hi)]
/-- of two ways to place the cells: they agree on those that there were, and on what stands outside -/
def zag (n0 : Nat) (ad0 ad : Nat → Nat) : Prop := ∀ k, k < n0 ∨ 900 ≤ k → ad k = ad0 k
theorem zag.rf {n0 : Nat} {ad : Nat → Nat} : zag n0 ad ad := fun _ _ => rfl
theorem zag.trans {n0 n1 : Nat} {a0 a1 a2 : Nat → Nat} (h1 : zag n0 a0 a1) (h2 : zag n1 a1 a2) (hn : n0 ≤ n1) : zag n0 a0 a2 := fun k hk => (h2 k (hk.imp (fun h => Nat.lt_of_lt_of_le h hn) id)).trans (h1 k hk)
def zok (n : Nat) : Value → Bool
  | .ref a => decide (a < n) || decide (900 ≤ a)
  | _ => true
theorem zok_zv {n : Nat} {a0 a1 : Nat → Nat} (h : zag n a0 a1) {v : Value} (hv : zok n v = true) : zv a1 v = zv a0 v := by
  cases v <;> simp_all [zok, zv]
  exact h _ (by omega)
theorem zok_map {n : Nat} {a0 a1 : Nat → Nat} (h : zag n a0 a1) {vs : List Value} (hv : vs.all (zok n) = true) : vs.map (zv a1) = vs.map (zv a0) := by
  apply List.map_congr_left
  intro v hm
  exact zok_zv h (List.all_eq_true.mp hv v hm)
/-- the locals, by their places -/
def zlv (ad : Nat → Nat) (lv : List (Option Value)) : List (Nat × Value) := (lv.mapIdx (fun i o => o.map (fun v => (i, zv ad v)))).filterMap id
theorem zlv_mem {ad : Nat → Nat} {lv : List (Option Value)} {q : Nat × Value} : q ∈ zlv ad lv ↔ ∃ v, lv[q.1]? = some (some v) ∧ q.2 = zv ad v := by
  obtain ⟨i, w⟩ := q
  simp only [zlv, List.mem_filterMap, id]
  constructor
  · rintro ⟨a, ha, rfl⟩
    obtain ⟨k, hk⟩ := List.getElem?_of_mem ha
    rw [List.getElem?_mapIdx] at hk
    cases ho : lv[k]? with
    | none => rw [ho] at hk; cases hk
    | some o =>
      rw [ho] at hk
      cases o with
      | none => simp at hk
      | some v =>
        simp at hk
        obtain ⟨rfl, rfl⟩ := hk
        exact ⟨v, ho, rfl⟩
  · rintro ⟨v, hv, rfl⟩
    refine ⟨some (i, zv ad v), List.mem_of_getElem? (i := i) ?_, rfl⟩
    rw [List.getElem?_mapIdx, hv]
    rfl
theorem zlv_sub {ls : Array Slot} {nL : Nat} {l l' : List (Nat × Value)} (h : lv_has ls nL l) (hs : ∀ q ∈ l', q ∈ l) : lv_has ls nL l' := ⟨h.1, h.2.1, fun q hq => h.2.2 q (hs q hq)⟩
def zokL (n : Nat) (lv : List (Option Value)) : Bool := lv.all (fun o => match o with | some v => zok n v | none => true)
theorem zok_mapL {n : Nat} {a0 a1 : Nat → Nat} (h : zag n a0 a1) {lv : List (Option Value)} (hv : zokL n lv = true) : ∀ q ∈ zlv a1 lv, q ∈ zlv a0 lv := by
  intro q hq
  obtain ⟨v, h1, h2⟩ := zlv_mem.mp hq
  refine zlv_mem.mpr ⟨v, h1, ?_⟩
  have := List.all_eq_true.mp hv (some v) (List.mem_of_getElem? h1)
  rw [h2, zok_zv h this]
theorem zv_cat (ad : Nat → Nat) (v : Value) : (zv ad v).category = v.category := by cases v <;> rfl
theorem zv_cats (ad : Nat → Nat) (st : List Value) : ((st.map (zv ad)).map fun v => v.category) = st.map fun v => v.category := by
  rw [List.map_map]
  apply List.map_congr_left
  intro v _
  exact zv_cat ad v
/-! the String constants -/
def zSn : Nat := 7
def zSo : List (String × Nat × String) := [("ShornSins", 11, "fch"), ("ShornSins", 13, "0123"), ("ShornSins", 15, "0123456789"), ("ShornSins", 24, "abcdefghijklmnopqrstuvwx"), ("ShornSins", 26, "01234567"), ("ShornSins", 28, "letm"), ("ShornSins$Text", 61, ";")]
def zSb : List (List Int32) := [[102, 99, 104], [48, 49, 50, 51], [48, 49, 50, 51, 52, 53, 54, 55, 56, 57], [97, 98, 99, 100, 101, 102, 103, 104, 105, 106, 107, 108, 109, 110, 111, 112, 113, 114, 115, 116, 117, 118, 119, 120], [48, 49, 50, 51, 52, 53, 54, 55], [108, 101, 116, 109], [59]]
def zSl : List Nat := [3, 4, 10, 24, 8, 4, 1]
def zSo' (i : Nat) : String × Nat × String := zSo.getD i ("", 0, "")
/-- links to private constructors of nest mates -/
def zNw : List (String × Nat × MethodName × String) := [("ShornSins", 35, yX8_init, "ShornSins"), ("ShornSins$Other", 9, yX8_init, "ShornSins"), ("ShornSins$Plans", 11, yX1_init, "ShornSins")]
def zG (ad : Nat → Nat) (A : Nat → Prop) (U : State) : Prop :=
  vk_S zSn zSl zSb (fun i => ad (1000 + i)) (fun i => ad (1100 + i)) A U U.heap ∧ (∀ i, i < zSn → vk_R (zSo' i).1 (zSo' i).2.1 (zSo' i).2.2 (ad (1000 + i)) U) ∧ va_Z "java/lang/String" "COMPACT_STRINGS" "Z" (.int 1) A U U.heap ∧ ∀ q ∈ zNw, va_Nw (.methodLinkNest q.1 q.2.1 q.2.2.1 q.2.2.2) U
theorem zG.ag {n : Nat} {a0 a1 : Nat → Nat} {A : Nat → Prop} {U : State} (h : zag n a0 a1) (g : zG a0 A U) : zG a1 A U := by
  have e1 : (fun i => a1 (1000 + i)) = fun i => a0 (1000 + i) := funext fun i => h _ (Or.inr (by omega))
  have e2 : (fun i => a1 (1100 + i)) = fun i => a0 (1100 + i) := funext fun i => h _ (Or.inr (by omega))
  obtain ⟨g1, g2, g3⟩ := g
  refine ⟨?_, fun i hi => ?_, g3⟩
  · rw [e1, e2]; exact g1
  · rw [h (1000 + i) (Or.inr (by omega))]; exact g2 i hi
/-- behind steps that leave what isn't A's: for a smaller set, in a warmer state -/
theorem zG.go {ad : Nat → Nat} {A B : Nat → Prop} {s U : State} (g : zG ad A s) (hW : s.WarmedH U.vm) (hk : ∀ q : Nat, q < s.heap.size → ¬ A q → U.heap[q]? = s.heap[q]?) (hB : ∀ q, B q → A q) : zG ad B U := by
  obtain ⟨g1, g2, g3, g4⟩ := g
  refine ⟨((g1.kept hk).moved hW.alike).narrow hB, fun i hi => (g2 i hi).warm hW, ((g3.kept hk).moved hW.alike).narrow hB, fun q hq => (g4 q hq).warmM hW⟩
theorem zG.calling {ad : Nat → Nat} {A : Nat → Prop} {U : State} (g : zG ad A U) (f : JFrame) (mk : MethodId) (a : Array Value) : zG ad A (U.calling f mk a) := by
  obtain ⟨g1, g2, g3, g4⟩ := g
  exact ⟨vk_S.moved (u := U) (U := U.calling f mk a) (Vm.Alike.refl U.vm) g1, fun i hi => vk_R.same (u := U) (U := U.calling f mk a) rfl (g2 i hi), va_Z.moved (u := U) (U := U.calling f mk a) (Vm.Alike.refl U.vm) g3, fun q hq => va_Nw.same (u := U) (U := U.calling f mk a) rfl rfl (g4 q hq)⟩

/-! a method: its name, bytes, places for locals, answer, room -/
abbrev zM : Type := MethodName × ByteArray × Nat × Option FieldType × Room
abbrev zy (M : zM) : MethodName := M.1
abbrev zb (M : zM) : ByteArray := M.2.1
abbrev zn (M : zM) : Nat := M.2.2.1
abbrev zr (M : zM) : Option FieldType := M.2.2.2.1
abbrev zm (M : zM) : Room := M.2.2.2.2
abbrev zP : Type := Option Value → List zK → zS → zL → Prop
abbrev ztys (cs : zA) : List (ClassId × FieldType) := [(cs.1, .int), (cs.2.1, .long), (cs.2.2, .boolean)]
/-- what stays while a method runs -/
def zX (M : zM) (X : Nat × (Nat → Int32)) (p : Program) (s : State) (m : MethodId) (args : Array Value) (meth : Method) (c : Code) (A : Nat → Prop) (ad : Nat → Nat) (D : va_G) (cs : zA) : Prop :=
  (p.tables.exec = Jvm.exec ∧ c.code = zb M ∧ meth.sig.returnType = zr M ∧ c.maxLocals = zn M ∧ s.vm.findClass (zy M).cls = some m.cls ∧ (∀ w ∈ zTB, w.before args s = true) ∧ meth.name = (zy M).name ∧ meth.locks = false) ∧
  (va_K D vwCl (ztys cs) s ∧ (∀ q, s.heap.size ≤ q → A q)) ∧ zG ad A s ∧ ((zy M).name = "law" → va_X (ad 999) X.1 X.2 s s.heap ∧ ad 999 < s.heap.size ∧ ¬ A (ad 999))
/-- a method's end -/
def zQ (n0 : Nat) (ad0 : Nat → Nat) (A : Nat → Prop) (D : va_G) (cs : zA) (post : zP) : Array Value → State → Outcome → State → Prop := fun _ st o t =>
  (∃ (r : Option Value) (sk : List zK) (S : zS) (L : zL) (ad : Nat → Nat), o = .returned (r.map (zv ad)) ∧ post r sk S L ∧ n0 ≤ sk.length ∧ zag n0 ad0 ad ∧ va_P D vwCl (zw ad cs sk S L) t.heap ∧ va_D A (zw ad cs sk S L)) ∧ va_F A st t
/-- THE JUDGEMENT: from this place on the method M comes to its end, and there post holds of its answer and of the cells -/
def zV (M : zM) (X : Nat × (Nat → Int32)) (sk : List zK) (S : zS) (L : zL) (cn : Nat × Nat) (pc : Nat) (lv : List (Option Value)) (st : List Value) (post : zP) : Prop :=
  ∀ (p : Program) (l : Launch) (e : Env) (s : State) (m : MethodId) (args : Array Value) (below : List Frame) (meth : Method) (c : Code) (H : Heap) (locs : List Loc) (A : Nat → Prop) (ad ad0 : Nat → Nat) (n0 : Nat) (D : va_G) (cs : zA) (ls : Array Slot),
    zX M X p s m args meth c A ad D cs → n0 ≤ sk.length ∧ zag n0 ad0 ad → va_P D vwCl (zw ad cs sk S L) H → va_D A (zw ad cs sk S L) → va_S A s.heap H locs → lv_has ls (zn M) (zlv ad lv) →
    W p l e (zm M) s m args below meth c H locs cn.1 cn.2 (MQ below (zQ n0 ad0 A D cs post) args s (zm M).cells (zm M).slots A) (F0 m pc ls (st.map (zv ad)))
/-- a method's start -/
def zPc (ad : Nat → Nat) (D : va_G) (cs : zA) (sz : Nat) (sk : List zK) (S : zS) (L : zL) (av : List Value) : Array Value → State → Prop := fun v U =>
  v = (av.map (zv ad)).toArray ∧ U.heap.size = sz ∧ va_P D vwCl (zw ad cs sk S L) U.heap ∧ va_D (fun _ => True) (zw ad cs sk S L) ∧ va_K D vwCl (ztys cs) U ∧ zG ad (va_A (zw ad cs sk S L) sz) U
abbrev zws (M : zM) : List Cond := Cond.code (zy M) (zb M) (zn M) (zr M) :: zTB
/-- A CALL: with these arguments, from these cells, M returns, and post holds -/
def zCall (M : zM) (sk : List zK) (S : zS) (L : zL) (av : List Value) (post : zP) : Prop :=
  ∀ (l : Launch) (ad : Nat → Nat) (D : va_G) (cs : zA) (sz : Nat), Met l (zy M) (zws M) (zm M) (zPc ad D cs sz sk S L av) (zQ sk.length ad (va_A (zw ad cs sk S L) sz) D cs post) (zm M).cells (zm M).slots (va_A (zw ad cs sk S L) sz)
theorem zPc_blind {ad : Nat → Nat} {D : va_G} {cs : zA} {sz : Nat} {sk : List zK} {S : zS} {L : zL} {av : List Value} : FrameBlind (zPc ad D cs sz sk S L av) := by
  intro a U g mk h
  obtain ⟨h1, h2, h3, h4, h5, h6⟩ := h
  exact ⟨h1, h2, h3, h4, va_K.moved (u := U) (U := U.calling g mk a) (Vm.Alike.refl U.vm) h5, h6.calling g mk a⟩
theorem zV_mono {M : zM} {X : Nat × (Nat → Int32)} {sk : List zK} {S : zS} {L : zL} {cn : Nat × Nat} {pc : Nat} {lv : List (Option Value)} {st : List Value} {post post' : zP} (h : zV M X sk S L cn pc lv st post) (hp : ∀ r sk S L, post r sk S L → post' r sk S L) : zV M X sk S L cn pc lv st post' := by
  intro p l e s m args below meth c H locs A ad ad0 n0 D cs ls hX hn hP hD hS hl T hT X
  obtain ⟨t, a, o, b1, b2, ⟨⟨r, sk', S', L', ad', q1, q2, q3⟩, q4⟩, b4⟩ := h p l e s m args below meth c H locs A ad ad0 n0 D cs ls hX hn hP hD hS hl T hT X
  exact ⟨t, a, o, b1, b2, ⟨⟨r, sk', S', L', ad', q1, hp _ _ _ _ q2, q3⟩, q4⟩, b4⟩
theorem z_sl (ad : Nat → Nat) (av : List Value) : (lg_sl (av.map (zv ad))).length = (lg_sl av).length := by
  induction av with
  | nil => rfl
  | cons v av ih =>
    simp only [lg_sl, List.map_cons, List.flatMap_cons, List.length_append, zv_cat] at ih ⊢
    rw [ih]
    split <;> rfl
/-- the locals at a method's start -/
def zen : List Value → List (Option Value)
  | [] => []
  | v :: vs => if v.category = 2 then some v :: none :: zen vs else some v :: zen vs
theorem z_args (ad : Nat → Nat) (av : List Value) : ∀ (i j : Nat) (v : Value), (zen av)[j]? = some (some v) → (i + j, zv ad v) ∈ lv_args i (av.map (zv ad)) := by
  induction av with
  | nil => intro i j v h; simp [zen] at h
  | cons w av ih =>
    intro i j v h
    simp only [zen] at h
    simp only [List.map_cons, lv_args, zv_cat]
    by_cases hc : w.category = 2
    · rw [if_pos hc] at h ⊢
      match j, h with
      | 0, h => simp at h; subst h; exact List.mem_cons_self
      | 1, h => simp at h
      | j + 2, h =>
        have h2 : (zen av)[j]? = some (some v) := by simpa using h
        have := ih (i + 2) j v h2
        rw [show i + (j + 2) = i + 2 + j by omega]
        exact List.mem_cons_of_mem _ this
    · rw [if_neg hc] at h ⊢
      match j, h with
      | 0, h => simp at h; subst h; exact List.mem_cons_self
      | j + 1, h =>
        have h2 : (zen av)[j]? = some (some v) := by simpa using h
        have := ih (i + 1) j v h2
        rw [show i + (j + 1) = i + 1 + j by omega]
        exact List.mem_cons_of_mem _ this
/-- the entry -/
theorem zV_entry {M : zM} {sk : List zK} {S : zS} {L : zL} {av : List Value} {post : zP} (hy : plainName (zy M).cls = true) (hn : (zy M).name ≠ "law") (hz : (lg_sl av).length ≤ zn M) (h : ∀ X, zV M X sk S L (0, 0) 0 (zen av) [] post) : zCall M sk S L av post := by
  intro l ad D cs sz
  refine Met.ofW (cc := zb M) (maxL := zn M) (ret := zr M) hy rfl ?_
  intro p e s m args below meth c s₁ B hml hv
  obtain ⟨rfl, hsz, hP, hD, hK, hG⟩ := hv
  subst hsz
  have hts := atoms_spec (ws := zws M) B.pre
  have hown : s.vm.findClass (zy M).cls = some m.cls := findClass_of_methodNamed B.named
  have hin : meth.name = (zy M).name := (name_of_methodNamed B.named B.method).1
  have hl := lv_entry (av.map (zv ad)) (n := zn M) (by rw [z_sl]; exact hz)
  have hl := zlv_sub (l' := zlv ad (zen av)) hl (fun q hq => by
    obtain ⟨v, h1, h2⟩ := zlv_mem.mp hq
    have := z_args ad av 0 q.1 v h1
    rw [Nat.zero_add, ← h2] at this
    exact this)
  rw [lg_entry_eq]
  exact h (0, fun _ => 0) p l e s m _ below meth c s.heap [] _ ad ad sk.length D cs _ ⟨⟨B.exec, B.bytes, B.returns, hml, hown, fun w hw => hts w (List.mem_cons_of_mem _ hw), hin, B.notSynchronized⟩, ⟨hK, fun q hq => Or.inr hq⟩, hG, fun h => absurd h hn⟩ ⟨Nat.le_refl _, zag.rf⟩ hP (hD.self) va_S.rf hl
section ZR
variable {M : zM} {X : Nat × (Nat → Int32)} {sk : List zK} {S : zS} {L : zL} {cn : Nat × Nat} {pc : Nat} {lv : List (Option Value)} {st : List Value} {post : zP}
/-! ends -/
theorem zv_iret {x : Int32} (d : decode (zb M) pc = .ok (.ireturn, 1)) (hr : zr M = some .int) (hc : cn.1 ≤ (zm M).cells ∧ cn.2 ≤ (zm M).slots) (h : post (some (.int x)) sk S L) : zV M X sk S L cn pc lv [.int x] post := by
  intro p l e s m args below meth c H locs A ad ad0 n0 D cs ls hX hn hP hD hS hl
  obtain ⟨⟨hx, hb, hrt, -, -, -, -, hlk⟩, -⟩ := hX
  refine W.widen hc.1 hc.2 ?_
  exact W.iret (v := x) hx hb (hrt.trans hr) (fun t ht hW => ⟨⟨some (.int x), sk, S, L, ad, rfl, h, hn.1, hn.2, by rw [ht]; exact hP, hD⟩, hS.F ht⟩) hS.2.2 d hlk
theorem zv_zret {x : Int32} {ty : FieldType} (d : decode (zb M) pc = .ok (.ireturn, 1)) (hr : zr M = some ty) (hnr : narrow ty (.int x) = .int x) (hc : cn.1 ≤ (zm M).cells ∧ cn.2 ≤ (zm M).slots) (h : post (some (.int x)) sk S L) : zV M X sk S L cn pc lv [.int x] post := by
  intro p l e s m args below meth c H locs A ad ad0 n0 D cs ls hX hn hP hD hS hl
  obtain ⟨⟨hx, hb, hrt, -, -, -, -, hlk⟩, -⟩ := hX
  refine W.widen hc.1 hc.2 ?_
  exact W.zret (v := x) hx hb (hrt.trans hr) hnr (fun t ht hW => ⟨⟨some (.int x), sk, S, L, ad, rfl, h, hn.1, hn.2, by rw [ht]; exact hP, hD⟩, hS.F ht⟩) hS.2.2 d hlk
theorem zv_lret {x : Int64} (d : decode (zb M) pc = .ok (.lreturn, 1)) (hr : zr M = some .long) (hc : cn.1 ≤ (zm M).cells ∧ cn.2 ≤ (zm M).slots) (h : post (some (.long x)) sk S L) : zV M X sk S L cn pc lv [.long x] post := by
  intro p l e s m args below meth c H locs A ad ad0 n0 D cs ls hX hn hP hD hS hl
  obtain ⟨⟨hx, hb, hrt, -, -, -, -, hlk⟩, -⟩ := hX
  refine W.widen hc.1 hc.2 ?_
  exact W.lret (v := x) hx hb (hrt.trans hr) (fun t ht hW => ⟨⟨some (.long x), sk, S, L, ad, rfl, h, hn.1, hn.2, by rw [ht]; exact hP, hD⟩, hS.F ht⟩) hS.2.2 d hlk
theorem zv_vret (d : decode (zb M) pc = .ok (.return_, 1)) (hr : zr M = none) (hc : cn.1 ≤ (zm M).cells ∧ cn.2 ≤ (zm M).slots) (h : post none sk S L) : zV M X sk S L cn pc lv [] post := by
  intro p l e s m args below meth c H locs A ad ad0 n0 D cs ls hX hn hP hD hS hl
  obtain ⟨⟨hx, hb, hrt, -, -, -, -, hlk⟩, -⟩ := hX
  refine W.widen hc.1 hc.2 ?_
  exact W.vret hx hb (hrt.trans hr) (fun t ht hW => ⟨⟨none, sk, S, L, ad, rfl, h, hn.1, hn.2, by rw [ht]; exact hP, hD⟩, hS.F ht⟩) hS.2.2 d hlk
theorem zv_aret {x : Nat} {o : String} (d : decode (zb M) pc = .ok (.areturn, 1)) (hr : zr M = some (.object o)) (hc : cn.1 ≤ (zm M).cells ∧ cn.2 ≤ (zm M).slots) (h : post (some (.ref x)) sk S L) : zV M X sk S L cn pc lv [.ref x] post := by
  intro p l e s m args below meth c H locs A ad ad0 n0 D cs ls hX hn hP hD hS hl
  obtain ⟨⟨hx, hb, hrt, -, -, -, -, hlk⟩, -⟩ := hX
  refine W.widen hc.1 hc.2 ?_
  exact W.aret (v := .ref (ad x)) hx hb (hrt.trans hr) (Or.inl ⟨_, rfl⟩) (Or.inr ⟨_, rfl⟩) (fun t ht hW => ⟨⟨some (.ref x), sk, S, L, ad, rfl, h, hn.1, hn.2, by rw [ht]; exact hP, hD⟩, hS.F ht⟩) hS.2.2 d hlk
end ZR
end
section
section ZI
variable {M : zM} {X : Nat × (Nat → Int32)} {sk : List zK} {S : zS} {L : zL} {cn : Nat × Nat} {pc : Nat} {lv : List (Option Value)} {st : List Value} {post : zP}
theorem zV_drop {lv' : List (Option Value)} (hs : ∀ (i : Nat) (v : Value), lv'[i]? = some (some v) → lv[i]? = some (some v)) (k : zV M X sk S L cn pc lv' st post) : zV M X sk S L cn pc lv st post := by
  intro p l e s m args below meth c H locs A ad ad0 n0 D cs ls hX hn hP hD hS hl
  refine k p l e s m args below meth c H locs A ad ad0 n0 D cs ls hX hn hP hD hS (zlv_sub hl (fun q hq => ?_))
  obtain ⟨v, h1, h2⟩ := zlv_mem.mp hq
  exact zlv_mem.mpr ⟨v, hs _ _ h1, h2⟩
theorem zlv_at {ad : Nat → Nat} {ls : Array Slot} {nL : Nat} (h : lv_has ls nL (zlv ad lv)) {i : Nat} {v : Value} (hv : lv[i]? = some (some v)) : ls[i]? = some (.val (zv ad v)) := h.2.2 (i, zv ad v) (zlv_mem.mpr ⟨v, hv, rfl⟩)
/-- no long stands half ahead of place i -/
def zp1 (lv : List (Option Value)) (i : Nat) : Bool := match i with
  | 0 => true
  | j + 1 => match lv[j]? with
    | some (some v) => v.category == 1
    | _ => true
theorem zlv_st1 {ad : Nat → Nat} {ls : Array Slot} {nL i : Nat} {v : Value} (hp : zp1 lv i = true) (h : lv_has ls nL ((i, zv ad v) :: (zlv ad lv).filter (fun q => !(q.1 == i) && !(q.1 + 1 == i && q.2.category == 2)))) : lv_has ls nL (zlv ad (lv.set i (some v))) := by
  refine zlv_sub h (fun q hq => ?_)
  obtain ⟨w, h1, h2⟩ := zlv_mem.mp hq
  by_cases hi : q.1 = i
  · subst hi
    by_cases hl : q.1 < lv.length
    · rw [List.getElem?_set_self hl] at h1
      cases h1
      rw [show q = (q.1, zv ad v) from by rw [← h2]]
      exact List.mem_cons_self
    · rw [List.getElem?_eq_none (by simp; omega)] at h1
      cases h1
  · rw [List.getElem?_set_ne (Ne.symm hi)] at h1
    refine List.mem_cons_of_mem _ (List.mem_filter.mpr ⟨zlv_mem.mpr ⟨w, h1, h2⟩, ?_⟩)
    have hc : ¬ (q.1 + 1 = i ∧ q.2.category = 2) := by
      rintro ⟨rfl, h4⟩
      simp only [zp1, h1] at hp
      rw [h2, zv_cat] at h4
      simp [h4] at hp
    simp only [Bool.and_eq_true, Bool.not_eq_true', beq_eq_false_iff_ne, ne_eq, Bool.and_eq_false_iff]
    refine ⟨hi, ?_⟩
    by_cases h5 : q.1 + 1 = i
    · exact Or.inr (fun h6 => hc ⟨h5, h6⟩)
    · exact Or.inl h5
theorem zlv_st2 {ad : Nat → Nat} {ls : Array Slot} {nL i : Nat} {v : Value} (hp : zp1 lv i = true) (h : lv_has ls nL ((i, zv ad v) :: (zlv ad lv).filter (fun q => !(q.1 == i) && (!(q.1 == i + 1) && !(q.1 + 1 == i && q.2.category == 2))))) : lv_has ls nL (zlv ad ((lv.set i (some v)).set (i + 1) none)) := by
  refine zlv_sub h (fun q hq => ?_)
  obtain ⟨w, h1, h2⟩ := zlv_mem.mp hq
  by_cases hi1 : q.1 = i + 1
  · exfalso
    rw [hi1] at h1
    by_cases hl : i + 1 < (lv.set i (some v)).length
    · rw [List.getElem?_set_self hl] at h1
      cases h1
    · rw [List.getElem?_eq_none (by rw [List.length_set]; omega)] at h1
      cases h1
  · rw [List.getElem?_set_ne (Ne.symm hi1)] at h1
    by_cases hi : q.1 = i
    · subst hi
      by_cases hl : q.1 < lv.length
      · rw [List.getElem?_set_self hl] at h1
        cases h1
        rw [show q = (q.1, zv ad v) from by rw [← h2]]
        exact List.mem_cons_self
      · rw [List.getElem?_eq_none (by simp; omega)] at h1
        cases h1
    · rw [List.getElem?_set_ne (Ne.symm hi)] at h1
      refine List.mem_cons_of_mem _ (List.mem_filter.mpr ⟨zlv_mem.mpr ⟨w, h1, h2⟩, ?_⟩)
      have hc : ¬ (q.1 + 1 = i ∧ q.2.category = 2) := by
        rintro ⟨rfl, h4⟩
        simp only [zp1, h1] at hp
        rw [h2, zv_cat] at h4
        simp [h4] at hp
      simp only [Bool.and_eq_true, Bool.not_eq_true', beq_eq_false_iff_ne, ne_eq, Bool.and_eq_false_iff]
      refine ⟨hi, hi1, ?_⟩
      by_cases h5 : q.1 + 1 = i
      · exact Or.inr (fun h6 => hc ⟨h5, h6⟩)
      · exact Or.inl h5
theorem zi_iconst {n : Int} {v : Int32} (d : decode (zb M) pc = .ok (.iconst n, 1)) (hv : Int32.ofInt n = v) (k : zV M X sk S L cn (pc + 1) lv (.int v :: st) post) : zV M X sk S L cn pc lv st post := by
  intro p l e s m args below meth c H locs A ad ad0 n0 D cs ls hX hn hP hD hS hl
  exact lv_iconst hX.1.1 hX.1.2.1 d hv (k p l e s m args below meth c H locs A ad ad0 n0 D cs ls hX hn hP hD hS hl)
theorem zi_bipush {n : Int} {v : Int32} (d : decode (zb M) pc = .ok (.bipush n, 2)) (hv : (Int8.ofInt n).toInt32 = v) (k : zV M X sk S L cn (pc + 2) lv (.int v :: st) post) : zV M X sk S L cn pc lv st post := by
  intro p l e s m args below meth c H locs A ad ad0 n0 D cs ls hX hn hP hD hS hl
  exact lv_bipush hX.1.1 hX.1.2.1 d hv (k p l e s m args below meth c H locs A ad ad0 n0 D cs ls hX hn hP hD hS hl)
theorem zi_sipush {n : Int} {v : Int32} (d : decode (zb M) pc = .ok (.sipush n, 3)) (hv : (Int16.ofInt n).toInt32 = v) (k : zV M X sk S L cn (pc + 3) lv (.int v :: st) post) : zV M X sk S L cn pc lv st post := by
  intro p l e s m args below meth c H locs A ad ad0 n0 D cs ls hX hn hP hD hS hl
  exact lv_sipush hX.1.1 hX.1.2.1 d hv (k p l e s m args below meth c H locs A ad ad0 n0 D cs ls hX hn hP hD hS hl)
theorem zi_lconst {n : Fin 2} {v : Int64} (d : decode (zb M) pc = .ok (.lconst n, 1)) (hv : Int64.ofNat (n : Nat) = v) (k : zV M X sk S L cn (pc + 1) lv (.long v :: st) post) : zV M X sk S L cn pc lv st post := by
  intro p l e s m args below meth c H locs A ad ad0 n0 D cs ls hX hn hP hD hS hl
  exact lv_lconst hX.1.1 hX.1.2.1 d hv (k p l e s m args below meth c H locs A ad ad0 n0 D cs ls hX hn hP hD hS hl)
theorem zi_iload_n {n : Fin 4} {i : Nat} {x : Int32} (d : decode (zb M) pc = .ok (.iload_n n, 1)) (hi : (n : Nat) = i) (hv : lv[i]? = some (some (.int x))) (k : zV M X sk S L cn (pc + 1) lv (.int x :: st) post) : zV M X sk S L cn pc lv st post := by
  intro p l e s m args below meth c H locs A ad ad0 n0 D cs ls hX hn hP hD hS hl
  exact lv_iload_n hX.1.1 hX.1.2.1 d hi (zlv_at hl hv) (k p l e s m args below meth c H locs A ad ad0 n0 D cs ls hX hn hP hD hS hl)
theorem zi_iload {i : Nat} {x : Int32} (d : decode (zb M) pc = .ok (.iload i, 2)) (hv : lv[i]? = some (some (.int x))) (k : zV M X sk S L cn (pc + 2) lv (.int x :: st) post) : zV M X sk S L cn pc lv st post := by
  intro p l e s m args below meth c H locs A ad ad0 n0 D cs ls hX hn hP hD hS hl
  exact lv_iload hX.1.1 hX.1.2.1 d (zlv_at hl hv) (k p l e s m args below meth c H locs A ad ad0 n0 D cs ls hX hn hP hD hS hl)
theorem zi_istore_n {n : Fin 4} {i : Nat} {x : Int32} (d : decode (zb M) pc = .ok (.istore_n n, 1)) (hi : (n : Nat) = i) (hn2 : i < zn M) (hp : zp1 lv i = true) (k : zV M X sk S L cn (pc + 1) (lv.set i (some (.int x))) st post) : zV M X sk S L cn pc lv (.int x :: st) post := by
  intro p l e s m args below meth c H locs A ad ad0 n0 D cs ls hX hn hP hD hS hl
  refine lv_istore_n (lv' := _) hX.1.1 hX.1.2.1 d hi hl hn2 rfl (fun ls' hl' => ?_)
  exact k p l e s m args below meth c H locs A ad ad0 n0 D cs ls' hX hn hP hD hS (zlv_st1 hp hl')
theorem zi_istore {i : Nat} {x : Int32} (d : decode (zb M) pc = .ok (.istore i, 2)) (hn2 : i < zn M) (hp : zp1 lv i = true) (k : zV M X sk S L cn (pc + 2) (lv.set i (some (.int x))) st post) : zV M X sk S L cn pc lv (.int x :: st) post := by
  intro p l e s m args below meth c H locs A ad ad0 n0 D cs ls hX hn hP hD hS hl
  refine lv_istore (lv' := _) hX.1.1 hX.1.2.1 d hl hn2 rfl (fun ls' hl' => ?_)
  exact k p l e s m args below meth c H locs A ad ad0 n0 D cs ls' hX hn hP hD hS (zlv_st1 hp hl')
theorem zi_lload_n {n : Fin 4} {i : Nat} {x : Int64} (d : decode (zb M) pc = .ok (.lload_n n, 1)) (hi : (n : Nat) = i) (hv : lv[i]? = some (some (.long x))) (k : zV M X sk S L cn (pc + 1) lv (.long x :: st) post) : zV M X sk S L cn pc lv st post := by
  intro p l e s m args below meth c H locs A ad ad0 n0 D cs ls hX hn hP hD hS hl
  exact lv_lload_n hX.1.1 hX.1.2.1 d hi (zlv_at hl hv) (k p l e s m args below meth c H locs A ad ad0 n0 D cs ls hX hn hP hD hS hl)
theorem zi_lload {i : Nat} {x : Int64} (d : decode (zb M) pc = .ok (.lload i, 2)) (hv : lv[i]? = some (some (.long x))) (k : zV M X sk S L cn (pc + 2) lv (.long x :: st) post) : zV M X sk S L cn pc lv st post := by
  intro p l e s m args below meth c H locs A ad ad0 n0 D cs ls hX hn hP hD hS hl
  exact lv_lload hX.1.1 hX.1.2.1 d (zlv_at hl hv) (k p l e s m args below meth c H locs A ad ad0 n0 D cs ls hX hn hP hD hS hl)
theorem zi_lstore_n {n : Fin 4} {i : Nat} {x : Int64} (d : decode (zb M) pc = .ok (.lstore_n n, 1)) (hi : (n : Nat) = i) (hn2 : i + 1 < zn M) (hp : zp1 lv i = true) (k : zV M X sk S L cn (pc + 1) ((lv.set i (some (.long x))).set (i + 1) none) st post) : zV M X sk S L cn pc lv (.long x :: st) post := by
  intro p l e s m args below meth c H locs A ad ad0 n0 D cs ls hX hn hP hD hS hl
  refine lv_lstore_n (lv' := _) hX.1.1 hX.1.2.1 d hi hl hn2 rfl (fun ls' hl' => ?_)
  exact k p l e s m args below meth c H locs A ad ad0 n0 D cs ls' hX hn hP hD hS (zlv_st2 hp hl')
theorem zi_lstore {i : Nat} {x : Int64} (d : decode (zb M) pc = .ok (.lstore i, 2)) (hn2 : i + 1 < zn M) (hp : zp1 lv i = true) (k : zV M X sk S L cn (pc + 2) ((lv.set i (some (.long x))).set (i + 1) none) st post) : zV M X sk S L cn pc lv (.long x :: st) post := by
  intro p l e s m args below meth c H locs A ad ad0 n0 D cs ls hX hn hP hD hS hl
  refine lv_lstore (lv' := _) hX.1.1 hX.1.2.1 d hl hn2 rfl (fun ls' hl' => ?_)
  exact k p l e s m args below meth c H locs A ad ad0 n0 D cs ls' hX hn hP hD hS (zlv_st2 hp hl')
theorem zi_aload_n {n : Fin 4} {i : Nat} {x : Nat} (d : decode (zb M) pc = .ok (.aload_n n, 1)) (hi : (n : Nat) = i) (hv : lv[i]? = some (some (.ref x))) (k : zV M X sk S L cn (pc + 1) lv (.ref x :: st) post) : zV M X sk S L cn pc lv st post := by
  intro p l e s m args below meth c H locs A ad ad0 n0 D cs ls hX hn hP hD hS hl
  exact lv_aload_n hX.1.1 hX.1.2.1 d hi (zlv_at hl hv) (k p l e s m args below meth c H locs A ad ad0 n0 D cs ls hX hn hP hD hS hl)
theorem zi_aload {i : Nat} {x : Nat} (d : decode (zb M) pc = .ok (.aload i, 2)) (hv : lv[i]? = some (some (.ref x))) (k : zV M X sk S L cn (pc + 2) lv (.ref x :: st) post) : zV M X sk S L cn pc lv st post := by
  intro p l e s m args below meth c H locs A ad ad0 n0 D cs ls hX hn hP hD hS hl
  exact lv_aload hX.1.1 hX.1.2.1 d (zlv_at hl hv) (k p l e s m args below meth c H locs A ad ad0 n0 D cs ls hX hn hP hD hS hl)
theorem zi_astore_n {n : Fin 4} {i : Nat} {x : Nat} (d : decode (zb M) pc = .ok (.astore_n n, 1)) (hi : (n : Nat) = i) (hn2 : i < zn M) (hp : zp1 lv i = true) (k : zV M X sk S L cn (pc + 1) (lv.set i (some (.ref x))) st post) : zV M X sk S L cn pc lv (.ref x :: st) post := by
  intro p l e s m args below meth c H locs A ad ad0 n0 D cs ls hX hn hP hD hS hl
  refine lv_astore_n (lv' := _) hX.1.1 hX.1.2.1 d hi hl hn2 rfl (fun ls' hl' => ?_)
  exact k p l e s m args below meth c H locs A ad ad0 n0 D cs ls' hX hn hP hD hS (zlv_st1 hp hl')
theorem zi_astore {i : Nat} {x : Nat} (d : decode (zb M) pc = .ok (.astore i, 2)) (hn2 : i < zn M) (hp : zp1 lv i = true) (k : zV M X sk S L cn (pc + 2) (lv.set i (some (.ref x))) st post) : zV M X sk S L cn pc lv (.ref x :: st) post := by
  intro p l e s m args below meth c H locs A ad ad0 n0 D cs ls hX hn hP hD hS hl
  refine lv_astore (lv' := _) hX.1.1 hX.1.2.1 d hl hn2 rfl (fun ls' hl' => ?_)
  exact k p l e s m args below meth c H locs A ad ad0 n0 D cs ls' hX hn hP hD hS (zlv_st1 hp hl')
theorem zi_iinc {i : Nat} {n : Int} {x v : Int32} (d : decode (zb M) pc = .ok (.iinc i n, 3)) (hv : lv[i]? = some (some (.int x))) (he : x + Int32.ofInt n = v) (hn2 : i < zn M) (hp : zp1 lv i = true) (k : zV M X sk S L cn (pc + 3) (lv.set i (some (.int v))) st post) : zV M X sk S L cn pc lv st post := by
  intro p l e s m args below meth c H locs A ad ad0 n0 D cs ls hX hn hP hD hS hl
  obtain ⟨j, hj⟩ := List.getElem?_of_mem (zlv_mem (ad := ad) (q := (i, .int x)).mpr ⟨_, hv, rfl⟩)
  refine lv_iinc (lv' := _) hX.1.1 hX.1.2.1 d hl (k := j) hj he hn2 rfl (fun ls' hl' => ?_)
  exact k p l e s m args below meth c H locs A ad ad0 n0 D cs ls' hX hn hP hD hS (zlv_st1 (v := .int v) hp hl')
theorem zi_iadd {x y : Int32} (d : decode (zb M) pc = .ok (.iadd, 1)) (k : zV M X sk S L cn (pc + 1) lv (.int (x + y) :: st) post) : zV M X sk S L cn pc lv (.int y :: .int x :: st) post := by
  intro p l e s m args below meth c H locs A ad ad0 n0 D cs ls hX hn hP hD hS hl
  exact lv_iadd hX.1.1 hX.1.2.1 d (k p l e s m args below meth c H locs A ad ad0 n0 D cs ls hX hn hP hD hS hl)
theorem zi_isub {x y : Int32} (d : decode (zb M) pc = .ok (.isub, 1)) (k : zV M X sk S L cn (pc + 1) lv (.int (x - y) :: st) post) : zV M X sk S L cn pc lv (.int y :: .int x :: st) post := by
  intro p l e s m args below meth c H locs A ad ad0 n0 D cs ls hX hn hP hD hS hl
  exact lv_isub hX.1.1 hX.1.2.1 d (k p l e s m args below meth c H locs A ad ad0 n0 D cs ls hX hn hP hD hS hl)
theorem zi_imul {x y : Int32} (d : decode (zb M) pc = .ok (.imul, 1)) (k : zV M X sk S L cn (pc + 1) lv (.int (x * y) :: st) post) : zV M X sk S L cn pc lv (.int y :: .int x :: st) post := by
  intro p l e s m args below meth c H locs A ad ad0 n0 D cs ls hX hn hP hD hS hl
  exact lv_imul hX.1.1 hX.1.2.1 d (k p l e s m args below meth c H locs A ad ad0 n0 D cs ls hX hn hP hD hS hl)
theorem zi_iand {x y : Int32} (d : decode (zb M) pc = .ok (.iand, 1)) (k : zV M X sk S L cn (pc + 1) lv (.int (x &&& y) :: st) post) : zV M X sk S L cn pc lv (.int y :: .int x :: st) post := by
  intro p l e s m args below meth c H locs A ad ad0 n0 D cs ls hX hn hP hD hS hl
  exact lv_iand hX.1.1 hX.1.2.1 d (k p l e s m args below meth c H locs A ad ad0 n0 D cs ls hX hn hP hD hS hl)
theorem zi_ior {x y : Int32} (d : decode (zb M) pc = .ok (.ior, 1)) (k : zV M X sk S L cn (pc + 1) lv (.int (x ||| y) :: st) post) : zV M X sk S L cn pc lv (.int y :: .int x :: st) post := by
  intro p l e s m args below meth c H locs A ad ad0 n0 D cs ls hX hn hP hD hS hl
  exact lv_ior hX.1.1 hX.1.2.1 d (k p l e s m args below meth c H locs A ad ad0 n0 D cs ls hX hn hP hD hS hl)
theorem zi_ishl {x y : Int32} (d : decode (zb M) pc = .ok (.ishl, 1)) (k : zV M X sk S L cn (pc + 1) lv (.int (x <<< (y &&& 31)) :: st) post) : zV M X sk S L cn pc lv (.int y :: .int x :: st) post := by
  intro p l e s m args below meth c H locs A ad ad0 n0 D cs ls hX hn hP hD hS hl
  exact lv_ishl hX.1.1 hX.1.2.1 d (k p l e s m args below meth c H locs A ad ad0 n0 D cs ls hX hn hP hD hS hl)
theorem zi_ishr {x y : Int32} (d : decode (zb M) pc = .ok (.ishr, 1)) (k : zV M X sk S L cn (pc + 1) lv (.int (x >>> (y &&& 31)) :: st) post) : zV M X sk S L cn pc lv (.int y :: .int x :: st) post := by
  intro p l e s m args below meth c H locs A ad ad0 n0 D cs ls hX hn hP hD hS hl
  exact lv_ishr hX.1.1 hX.1.2.1 d (k p l e s m args below meth c H locs A ad ad0 n0 D cs ls hX hn hP hD hS hl)
theorem zi_idiv {x y : Int32} (d : decode (zb M) pc = .ok (.idiv, 1)) (hne : ¬ y = 0) (k : zV M X sk S L cn (pc + 1) lv (.int (x / y) :: st) post) : zV M X sk S L cn pc lv (.int y :: .int x :: st) post := by
  intro p l e s m args below meth c H locs A ad ad0 n0 D cs ls hX hn hP hD hS hl
  exact lv_idiv hX.1.1 hX.1.2.1 d hne (k p l e s m args below meth c H locs A ad ad0 n0 D cs ls hX hn hP hD hS hl)
theorem zi_irem {x y : Int32} (d : decode (zb M) pc = .ok (.irem, 1)) (hne : ¬ y = 0) (k : zV M X sk S L cn (pc + 1) lv (.int (x - x / y * y) :: st) post) : zV M X sk S L cn pc lv (.int y :: .int x :: st) post := by
  intro p l e s m args below meth c H locs A ad ad0 n0 D cs ls hX hn hP hD hS hl
  exact lv_irem hX.1.1 hX.1.2.1 d hne (k p l e s m args below meth c H locs A ad ad0 n0 D cs ls hX hn hP hD hS hl)
theorem zi_ladd {x y : Int64} (d : decode (zb M) pc = .ok (.ladd, 1)) (k : zV M X sk S L cn (pc + 1) lv (.long (x + y) :: st) post) : zV M X sk S L cn pc lv (.long y :: .long x :: st) post := by
  intro p l e s m args below meth c H locs A ad ad0 n0 D cs ls hX hn hP hD hS hl
  exact lv_ladd hX.1.1 hX.1.2.1 d (k p l e s m args below meth c H locs A ad ad0 n0 D cs ls hX hn hP hD hS hl)
theorem zi_lsub {x y : Int64} (d : decode (zb M) pc = .ok (.lsub, 1)) (k : zV M X sk S L cn (pc + 1) lv (.long (x - y) :: st) post) : zV M X sk S L cn pc lv (.long y :: .long x :: st) post := by
  intro p l e s m args below meth c H locs A ad ad0 n0 D cs ls hX hn hP hD hS hl
  exact lv_lsub hX.1.1 hX.1.2.1 d (k p l e s m args below meth c H locs A ad ad0 n0 D cs ls hX hn hP hD hS hl)
theorem zi_lmul {x y : Int64} (d : decode (zb M) pc = .ok (.lmul, 1)) (k : zV M X sk S L cn (pc + 1) lv (.long (x * y) :: st) post) : zV M X sk S L cn pc lv (.long y :: .long x :: st) post := by
  intro p l e s m args below meth c H locs A ad ad0 n0 D cs ls hX hn hP hD hS hl
  exact lv_lmul hX.1.1 hX.1.2.1 d (k p l e s m args below meth c H locs A ad ad0 n0 D cs ls hX hn hP hD hS hl)
theorem zi_land {x y : Int64} (d : decode (zb M) pc = .ok (.land, 1)) (k : zV M X sk S L cn (pc + 1) lv (.long (x &&& y) :: st) post) : zV M X sk S L cn pc lv (.long y :: .long x :: st) post := by
  intro p l e s m args below meth c H locs A ad ad0 n0 D cs ls hX hn hP hD hS hl
  exact lv_land hX.1.1 hX.1.2.1 d (k p l e s m args below meth c H locs A ad ad0 n0 D cs ls hX hn hP hD hS hl)
theorem zi_ldiv {x y : Int64} (d : decode (zb M) pc = .ok (.ldiv, 1)) (hne : ¬ y = 0) (k : zV M X sk S L cn (pc + 1) lv (.long (x / y) :: st) post) : zV M X sk S L cn pc lv (.long y :: .long x :: st) post := by
  intro p l e s m args below meth c H locs A ad ad0 n0 D cs ls hX hn hP hD hS hl
  exact lv_ldiv hX.1.1 hX.1.2.1 d hne (k p l e s m args below meth c H locs A ad ad0 n0 D cs ls hX hn hP hD hS hl)
theorem zi_lrem {x y : Int64} (d : decode (zb M) pc = .ok (.lrem, 1)) (hne : ¬ y = 0) (k : zV M X sk S L cn (pc + 1) lv (.long (x - x / y * y) :: st) post) : zV M X sk S L cn pc lv (.long y :: .long x :: st) post := by
  intro p l e s m args below meth c H locs A ad ad0 n0 D cs ls hX hn hP hD hS hl
  exact lv_lrem hX.1.1 hX.1.2.1 d hne (k p l e s m args below meth c H locs A ad ad0 n0 D cs ls hX hn hP hD hS hl)
theorem zi_i2l {x : Int32} (d : decode (zb M) pc = .ok (.i2l, 1)) (k : zV M X sk S L cn (pc + 1) lv (.long x.toInt64 :: st) post) : zV M X sk S L cn pc lv (.int x :: st) post := by
  intro p l e s m args below meth c H locs A ad ad0 n0 D cs ls hX hn hP hD hS hl
  exact lv_i2l hX.1.1 hX.1.2.1 d rfl (k p l e s m args below meth c H locs A ad ad0 n0 D cs ls hX hn hP hD hS hl)
theorem zi_i2b {x : Int32} (d : decode (zb M) pc = .ok (.i2b, 1)) (k : zV M X sk S L cn (pc + 1) lv (.int x.toInt8.toInt32 :: st) post) : zV M X sk S L cn pc lv (.int x :: st) post := by
  intro p l e s m args below meth c H locs A ad ad0 n0 D cs ls hX hn hP hD hS hl
  exact lv_i2b hX.1.1 hX.1.2.1 d rfl (k p l e s m args below meth c H locs A ad ad0 n0 D cs ls hX hn hP hD hS hl)
theorem zi_i2s {x : Int32} (d : decode (zb M) pc = .ok (.i2s, 1)) (k : zV M X sk S L cn (pc + 1) lv (.int x.toInt16.toInt32 :: st) post) : zV M X sk S L cn pc lv (.int x :: st) post := by
  intro p l e s m args below meth c H locs A ad ad0 n0 D cs ls hX hn hP hD hS hl
  exact lv_i2s hX.1.1 hX.1.2.1 d rfl (k p l e s m args below meth c H locs A ad ad0 n0 D cs ls hX hn hP hD hS hl)
theorem zi_i2c {x : Int32} (d : decode (zb M) pc = .ok (.i2c, 1)) (k : zV M X sk S L cn (pc + 1) lv (.int (x.toUInt32 % 65536).toInt32 :: st) post) : zV M X sk S L cn pc lv (.int x :: st) post := by
  intro p l e s m args below meth c H locs A ad ad0 n0 D cs ls hX hn hP hD hS hl
  exact lv_i2c hX.1.1 hX.1.2.1 d rfl (k p l e s m args below meth c H locs A ad ad0 n0 D cs ls hX hn hP hD hS hl)
theorem zi_iushr {x y : Int32} (d : decode (zb M) pc = .ok (.iushr, 1)) (k : zV M X sk S L cn (pc + 1) lv (.int (x.toUInt32 >>> (y.toUInt32 &&& Int32.toUInt32 31)).toInt32 :: st) post) : zV M X sk S L cn pc lv (.int y :: .int x :: st) post := by
  intro p l e s m args below meth c H locs A ad ad0 n0 D cs ls hX hn hP hD hS hl
  exact lv_iushr hX.1.1 hX.1.2.1 d rfl (k p l e s m args below meth c H locs A ad ad0 n0 D cs ls hX hn hP hD hS hl)
theorem zi_lshl {x : Int64} {y : Int32} (d : decode (zb M) pc = .ok (.lshl, 1)) (k : zV M X sk S L cn (pc + 1) lv (.long (x <<< (y.toInt64 &&& 63)) :: st) post) : zV M X sk S L cn pc lv (.int y :: .long x :: st) post := by
  intro p l e s m args below meth c H locs A ad ad0 n0 D cs ls hX hn hP hD hS hl
  exact lv_lshl hX.1.1 hX.1.2.1 d rfl (k p l e s m args below meth c H locs A ad ad0 n0 D cs ls hX hn hP hD hS hl)
theorem zi_lshr {x : Int64} {y : Int32} (d : decode (zb M) pc = .ok (.lshr, 1)) (k : zV M X sk S L cn (pc + 1) lv (.long (x >>> (y.toInt64 &&& 63)) :: st) post) : zV M X sk S L cn pc lv (.int y :: .long x :: st) post := by
  intro p l e s m args below meth c H locs A ad ad0 n0 D cs ls hX hn hP hD hS hl
  exact lv_lshr hX.1.1 hX.1.2.1 d rfl (k p l e s m args below meth c H locs A ad ad0 n0 D cs ls hX hn hP hD hS hl)
theorem zi_lcmp {x y : Int64} (d : decode (zb M) pc = .ok (.lcmp, 1)) (k : zV M X sk S L cn (pc + 1) lv (.int (lg_cmp x y) :: st) post) : zV M X sk S L cn pc lv (.long y :: .long x :: st) post := by
  intro p l e s m args below meth c H locs A ad ad0 n0 D cs ls hX hn hP hD hS hl
  exact W.lcmp hX.1.1 hX.1.2.1 d (k p l e s m args below meth c H locs A ad ad0 n0 D cs ls hX hn hP hD hS hl)
theorem zi_dup {v : Value} (d : decode (zb M) pc = .ok (.dup, 1)) (hv : v.category = 1) (k : zV M X sk S L cn (pc + 1) lv (v :: v :: st) post) : zV M X sk S L cn pc lv (v :: st) post := by
  intro p l e s m args below meth c H locs A ad ad0 n0 D cs ls hX hn hP hD hS hl
  exact lv_dup hX.1.1 hX.1.2.1 d ((zv_cat ad v).trans hv) (k p l e s m args below meth c H locs A ad ad0 n0 D cs ls hX hn hP hD hS hl)
theorem zi_pop {v : Value} (d : decode (zb M) pc = .ok (.pop, 1)) (hv : v.category = 1) (k : zV M X sk S L cn (pc + 1) lv st post) : zV M X sk S L cn pc lv (v :: st) post := by
  intro p l e s m args below meth c H locs A ad ad0 n0 D cs ls hX hn hP hD hS hl
  exact lv_pop hX.1.1 hX.1.2.1 d ((zv_cat ad v).trans hv) (k p l e s m args below meth c H locs A ad ad0 n0 D cs ls hX hn hP hD hS hl)
theorem zi_dup2_11 {v w : Value} (d : decode (zb M) pc = .ok (.dup2, 1)) (hv : v.category = 1) (hw : w.category = 1) (k : zV M X sk S L cn (pc + 1) lv (v :: w :: v :: w :: st) post) : zV M X sk S L cn pc lv (v :: w :: st) post := by
  intro p l e s m args below meth c H locs A ad ad0 n0 D cs ls hX hn hP hD hS hl
  exact lv_dup2_11 hX.1.1 hX.1.2.1 d ((zv_cat ad v).trans hv) ((zv_cat ad w).trans hw) (k p l e s m args below meth c H locs A ad ad0 n0 D cs ls hX hn hP hD hS hl)
theorem zi_dup2_2 {v : Value} (d : decode (zb M) pc = .ok (.dup2, 1)) (hv : v.category = 2) (k : zV M X sk S L cn (pc + 1) lv (v :: v :: st) post) : zV M X sk S L cn pc lv (v :: st) post := by
  intro p l e s m args below meth c H locs A ad ad0 n0 D cs ls hX hn hP hD hS hl
  exact lv_dup2_2 hX.1.1 hX.1.2.1 d ((zv_cat ad v).trans hv) (k p l e s m args below meth c H locs A ad ad0 n0 D cs ls hX hn hP hD hS hl)
theorem zi_if_eq {x : Int32} {off : Int} {tgt : Nat} (d : decode (zb M) pc = .ok (.ifCond .eq off, 3)) (ht : (pc : Int) + off = (tgt : Int)) (kt : x = 0 → zV M X sk S L cn tgt lv st post) (kf : ¬ x = 0 → zV M X sk S L cn (pc + 3) lv st post) : zV M X sk S L cn pc lv (.int x :: st) post := by
  intro p l e s m args below meth c H locs A ad ad0 n0 D cs ls hX hn hP hD hS hl
  exact lv_if_eq hX.1.1 hX.1.2.1 d ht (fun q => kt q p l e s m args below meth c H locs A ad ad0 n0 D cs ls hX hn hP hD hS hl) (fun q => kf q p l e s m args below meth c H locs A ad ad0 n0 D cs ls hX hn hP hD hS hl)
theorem zi_icmp_eq {x y : Int32} {off : Int} {tgt : Nat} (d : decode (zb M) pc = .ok (.if_icmp .eq off, 3)) (ht : (pc : Int) + off = (tgt : Int)) (kt : x = y → zV M X sk S L cn tgt lv st post) (kf : ¬ x = y → zV M X sk S L cn (pc + 3) lv st post) : zV M X sk S L cn pc lv (.int y :: .int x :: st) post := by
  intro p l e s m args below meth c H locs A ad ad0 n0 D cs ls hX hn hP hD hS hl
  exact lv_icmp_eq hX.1.1 hX.1.2.1 d ht (fun q => kt q p l e s m args below meth c H locs A ad ad0 n0 D cs ls hX hn hP hD hS hl) (fun q => kf q p l e s m args below meth c H locs A ad ad0 n0 D cs ls hX hn hP hD hS hl)
theorem zi_if_lt {x : Int32} {off : Int} {tgt : Nat} (d : decode (zb M) pc = .ok (.ifCond .lt off, 3)) (ht : (pc : Int) + off = (tgt : Int)) (kt : x < 0 → zV M X sk S L cn tgt lv st post) (kf : ¬ x < 0 → zV M X sk S L cn (pc + 3) lv st post) : zV M X sk S L cn pc lv (.int x :: st) post := by
  intro p l e s m args below meth c H locs A ad ad0 n0 D cs ls hX hn hP hD hS hl
  exact lv_if_lt hX.1.1 hX.1.2.1 d ht (fun q => kt q p l e s m args below meth c H locs A ad ad0 n0 D cs ls hX hn hP hD hS hl) (fun q => kf q p l e s m args below meth c H locs A ad ad0 n0 D cs ls hX hn hP hD hS hl)
theorem zi_icmp_lt {x y : Int32} {off : Int} {tgt : Nat} (d : decode (zb M) pc = .ok (.if_icmp .lt off, 3)) (ht : (pc : Int) + off = (tgt : Int)) (kt : x < y → zV M X sk S L cn tgt lv st post) (kf : ¬ x < y → zV M X sk S L cn (pc + 3) lv st post) : zV M X sk S L cn pc lv (.int y :: .int x :: st) post := by
  intro p l e s m args below meth c H locs A ad ad0 n0 D cs ls hX hn hP hD hS hl
  exact lv_icmp_lt hX.1.1 hX.1.2.1 d ht (fun q => kt q p l e s m args below meth c H locs A ad ad0 n0 D cs ls hX hn hP hD hS hl) (fun q => kf q p l e s m args below meth c H locs A ad ad0 n0 D cs ls hX hn hP hD hS hl)
theorem zi_if_ge {x : Int32} {off : Int} {tgt : Nat} (d : decode (zb M) pc = .ok (.ifCond .ge off, 3)) (ht : (pc : Int) + off = (tgt : Int)) (kt : 0 ≤ x → zV M X sk S L cn tgt lv st post) (kf : ¬ 0 ≤ x → zV M X sk S L cn (pc + 3) lv st post) : zV M X sk S L cn pc lv (.int x :: st) post := by
  intro p l e s m args below meth c H locs A ad ad0 n0 D cs ls hX hn hP hD hS hl
  exact lv_if_ge hX.1.1 hX.1.2.1 d ht (fun q => kt q p l e s m args below meth c H locs A ad ad0 n0 D cs ls hX hn hP hD hS hl) (fun q => kf q p l e s m args below meth c H locs A ad ad0 n0 D cs ls hX hn hP hD hS hl)
theorem zi_icmp_ge {x y : Int32} {off : Int} {tgt : Nat} (d : decode (zb M) pc = .ok (.if_icmp .ge off, 3)) (ht : (pc : Int) + off = (tgt : Int)) (kt : y ≤ x → zV M X sk S L cn tgt lv st post) (kf : ¬ y ≤ x → zV M X sk S L cn (pc + 3) lv st post) : zV M X sk S L cn pc lv (.int y :: .int x :: st) post := by
  intro p l e s m args below meth c H locs A ad ad0 n0 D cs ls hX hn hP hD hS hl
  exact lv_icmp_ge hX.1.1 hX.1.2.1 d ht (fun q => kt q p l e s m args below meth c H locs A ad ad0 n0 D cs ls hX hn hP hD hS hl) (fun q => kf q p l e s m args below meth c H locs A ad ad0 n0 D cs ls hX hn hP hD hS hl)
theorem zi_if_gt {x : Int32} {off : Int} {tgt : Nat} (d : decode (zb M) pc = .ok (.ifCond .gt off, 3)) (ht : (pc : Int) + off = (tgt : Int)) (kt : 0 < x → zV M X sk S L cn tgt lv st post) (kf : ¬ 0 < x → zV M X sk S L cn (pc + 3) lv st post) : zV M X sk S L cn pc lv (.int x :: st) post := by
  intro p l e s m args below meth c H locs A ad ad0 n0 D cs ls hX hn hP hD hS hl
  exact lv_if_gt hX.1.1 hX.1.2.1 d ht (fun q => kt q p l e s m args below meth c H locs A ad ad0 n0 D cs ls hX hn hP hD hS hl) (fun q => kf q p l e s m args below meth c H locs A ad ad0 n0 D cs ls hX hn hP hD hS hl)
theorem zi_icmp_gt {x y : Int32} {off : Int} {tgt : Nat} (d : decode (zb M) pc = .ok (.if_icmp .gt off, 3)) (ht : (pc : Int) + off = (tgt : Int)) (kt : y < x → zV M X sk S L cn tgt lv st post) (kf : ¬ y < x → zV M X sk S L cn (pc + 3) lv st post) : zV M X sk S L cn pc lv (.int y :: .int x :: st) post := by
  intro p l e s m args below meth c H locs A ad ad0 n0 D cs ls hX hn hP hD hS hl
  exact lv_icmp_gt hX.1.1 hX.1.2.1 d ht (fun q => kt q p l e s m args below meth c H locs A ad ad0 n0 D cs ls hX hn hP hD hS hl) (fun q => kf q p l e s m args below meth c H locs A ad ad0 n0 D cs ls hX hn hP hD hS hl)
theorem zi_if_le {x : Int32} {off : Int} {tgt : Nat} (d : decode (zb M) pc = .ok (.ifCond .le off, 3)) (ht : (pc : Int) + off = (tgt : Int)) (kt : x ≤ 0 → zV M X sk S L cn tgt lv st post) (kf : ¬ x ≤ 0 → zV M X sk S L cn (pc + 3) lv st post) : zV M X sk S L cn pc lv (.int x :: st) post := by
  intro p l e s m args below meth c H locs A ad ad0 n0 D cs ls hX hn hP hD hS hl
  exact lv_if_le hX.1.1 hX.1.2.1 d ht (fun q => kt q p l e s m args below meth c H locs A ad ad0 n0 D cs ls hX hn hP hD hS hl) (fun q => kf q p l e s m args below meth c H locs A ad ad0 n0 D cs ls hX hn hP hD hS hl)
theorem zi_icmp_le {x y : Int32} {off : Int} {tgt : Nat} (d : decode (zb M) pc = .ok (.if_icmp .le off, 3)) (ht : (pc : Int) + off = (tgt : Int)) (kt : x ≤ y → zV M X sk S L cn tgt lv st post) (kf : ¬ x ≤ y → zV M X sk S L cn (pc + 3) lv st post) : zV M X sk S L cn pc lv (.int y :: .int x :: st) post := by
  intro p l e s m args below meth c H locs A ad ad0 n0 D cs ls hX hn hP hD hS hl
  exact lv_icmp_le hX.1.1 hX.1.2.1 d ht (fun q => kt q p l e s m args below meth c H locs A ad ad0 n0 D cs ls hX hn hP hD hS hl) (fun q => kf q p l e s m args below meth c H locs A ad ad0 n0 D cs ls hX hn hP hD hS hl)
theorem zi_if_ne {x : Int32} {off : Int} {tgt : Nat} (d : decode (zb M) pc = .ok (.ifCond .ne off, 3)) (ht : (pc : Int) + off = (tgt : Int)) (kt : ¬ x = 0 → zV M X sk S L cn tgt lv st post) (kf : x = 0 → zV M X sk S L cn (pc + 3) lv st post) : zV M X sk S L cn pc lv (.int x :: st) post := by
  intro p l e s m args below meth c H locs A ad ad0 n0 D cs ls hX hn hP hD hS hl
  exact lv_if_ne hX.1.1 hX.1.2.1 d ht (fun q => kt q p l e s m args below meth c H locs A ad ad0 n0 D cs ls hX hn hP hD hS hl) (fun q => kf q p l e s m args below meth c H locs A ad ad0 n0 D cs ls hX hn hP hD hS hl)
theorem zi_icmp_ne {x y : Int32} {off : Int} {tgt : Nat} (d : decode (zb M) pc = .ok (.if_icmp .ne off, 3)) (ht : (pc : Int) + off = (tgt : Int)) (kt : ¬ x = y → zV M X sk S L cn tgt lv st post) (kf : x = y → zV M X sk S L cn (pc + 3) lv st post) : zV M X sk S L cn pc lv (.int y :: .int x :: st) post := by
  intro p l e s m args below meth c H locs A ad ad0 n0 D cs ls hX hn hP hD hS hl
  exact lv_icmp_ne hX.1.1 hX.1.2.1 d ht (fun q => kt q p l e s m args below meth c H locs A ad ad0 n0 D cs ls hX hn hP hD hS hl) (fun q => kf q p l e s m args below meth c H locs A ad ad0 n0 D cs ls hX hn hP hD hS hl)
theorem zi_goto {off : Int} {tgt : Nat} (d : decode (zb M) pc = .ok (.goto off, 3)) (ht : (pc : Int) + off = (tgt : Int)) (k : zV M X sk S L cn tgt lv st post) : zV M X sk S L cn pc lv st post := by
  intro p l e s m args below meth c H locs A ad ad0 n0 D cs ls hX hn hP hD hS hl
  exact lv_goto hX.1.1 hX.1.2.1 d ht (k p l e s m args below meth c H locs A ad ad0 n0 D cs ls hX hn hP hD hS hl)
theorem zi_tableOut {dflt lo hi : Int} {offs : Array Int} {len : Nat} {x : Int32} {tgt : Nat} (d : decode (zb M) pc = .ok (.tableswitch dflt lo hi offs, len)) (h : x.toInt < lo ∨ hi < x.toInt) (ht : (pc : Int) + dflt = (tgt : Int)) (k : zV M X sk S L cn tgt lv st post) : zV M X sk S L cn pc lv (.int x :: st) post := by
  intro p l e s m args below meth c H locs A ad ad0 n0 D cs ls hX hn hP hD hS hl
  exact lv_tableOut hX.1.1 hX.1.2.1 d h ht (k p l e s m args below meth c H locs A ad ad0 n0 D cs ls hX hn hP hD hS hl)
theorem zi_tableIn {dflt lo hi : Int} {offs : Array Int} {len : Nat} {x : Int32} {off : Int} {tgt : Nat} (d : decode (zb M) pc = .ok (.tableswitch dflt lo hi offs, len)) (h1 : ¬ x.toInt < lo) (h2 : ¬ hi < x.toInt) (ho : offs[(x.toInt - lo).toNat]? = some off) (ht : (pc : Int) + off = (tgt : Int)) (k : zV M X sk S L cn tgt lv st post) : zV M X sk S L cn pc lv (.int x :: st) post := by
  intro p l e s m args below meth c H locs A ad ad0 n0 D cs ls hX hn hP hD hS hl
  exact lv_tableIn hX.1.1 hX.1.2.1 d h1 h2 ho ht (k p l e s m args below meth c H locs A ad ad0 n0 D cs ls hX hn hP hD hS hl)
theorem zi_lookup {dflt : Int} {ps : Array (Int × Int)} {len : Nat} {x : Int32} {off : Int} {tgt : Nat} (d : decode (zb M) pc = .ok (.lookupswitch dflt ps, len)) (hp : (ps.toList.zip (ps.toList.drop 1)).all (fun (a, next) => a.1 < next.1) = true) (ho : Op.lookupswitch.offset ps.toList dflt x.toInt = off) (ht : (pc : Int) + off = (tgt : Int)) (k : zV M X sk S L cn tgt lv st post) : zV M X sk S L cn pc lv (.int x :: st) post := by
  intro p l e s m args below meth c H locs A ad ad0 n0 D cs ls hX hn hP hD hS hl
  exact lv_lookup hX.1.1 hX.1.2.1 d hp ho ht (k p l e s m args below meth c H locs A ad ad0 n0 D cs ls hX hn hP hD hS hl)
theorem zi_ldc {i : Nat} {v : Int32} (d : decode (zb M) pc = .ok (.ldc i, 2)) (hc : Cond.constant (zy M).cls i v ∈ zTB) (k : zV M X sk S L cn (pc + 2) lv (.int v :: st) post) : zV M X sk S L cn pc lv st post := by
  intro p l e s m args below meth c H locs A ad ad0 n0 D cs ls hX hn hP hD hS hl
  exact lv_ldc hX.1.1 hX.1.2.1 hX.1.2.2.2.2.1 (hX.1.2.2.2.2.2.1 _ hc) d (k p l e s m args below meth c H locs A ad ad0 n0 D cs ls hX hn hP hD hS hl)
theorem zi_ldcw {i : Nat} {v : Int32} (d : decode (zb M) pc = .ok (.ldc_w i, 3)) (hc : Cond.constant (zy M).cls i v ∈ zTB) (k : zV M X sk S L cn (pc + 3) lv (.int v :: st) post) : zV M X sk S L cn pc lv st post := by
  intro p l e s m args below meth c H locs A ad ad0 n0 D cs ls hX hn hP hD hS hl
  exact lv_ldcw hX.1.1 hX.1.2.1 hX.1.2.2.2.2.1 (hX.1.2.2.2.2.2.1 _ hc) d (k p l e s m args below meth c H locs A ad ad0 n0 D cs ls hX hn hP hD hS hl)
theorem zi_ldc2 {i : Nat} {v : Int64} (d : decode (zb M) pc = .ok (.ldc2_w i, 3)) (hc : Cond.constantLong (zy M).cls i v ∈ zTB) (k : zV M X sk S L cn (pc + 3) lv (.long v :: st) post) : zV M X sk S L cn pc lv st post := by
  intro p l e s m args below meth c H locs A ad ad0 n0 D cs ls hX hn hP hD hS hl
  exact lv_ldc2 hX.1.1 hX.1.2.1 hX.1.2.2.2.2.1 (hX.1.2.2.2.2.2.1 _ hc) d (k p l e s m args below meth c H locs A ad ad0 n0 D cs ls hX hn hP hD hS hl)
/-- a String constant -/
theorem zi_ldcS {i j : Nat} (hj : j < zSn) (ho : (zSo' j).1 = (zy M).cls ∧ (zSo' j).2.1 = i) (d : decode (zb M) pc = .ok (.ldc i, 2)) (k : zV M X sk S L cn (pc + 2) lv (.ref (1000 + j) :: st) post) : zV M X sk S L cn pc lv st post := by
  intro p l e s m args below meth c H locs A ad ad0 n0 D cs ls hX hn hP hD hS hl
  have hR := hX.2.2.1.2.1 j hj
  rw [ho.1, ho.2] at hR
  exact va_ldcS hX.1.1 hX.1.2.1 hX.1.2.2.2.2.1 hR d (k p l e s m args below meth c H locs A ad ad0 n0 D cs ls hX hn hP hD hS hl)
end ZI
/-! fields -/
def zcls (ci : Nat) (C : String) (T : u_T) (N : Nat) (ty : Nat → FieldType) : Prop := vwCl[ci]? = some (C, T, N) ∧ (∀ w ∈ u_ws C T N, w ∈ zTB) ∧ (∀ k, k < N → parseFieldDescriptor (T k).2.2.1 = some (ty k)) ∧ (∀ a, a < N → ∀ b, b < N → a ≠ b → (T a).2.1 ≠ (T b).2.1)
theorem zcls0 : zcls 0 RX0 TX0 6 tyX0 := ⟨rfl, inX0, tyX0_ok, nmX0⟩
theorem zcls1 : zcls 1 RX1 TX1 2 tyX1 := ⟨rfl, inX1, tyX1_ok, nmX1⟩
theorem zcls2 : zcls 2 RX2 TX2 6 tyX2 := ⟨rfl, inX2, tyX2_ok, nmX2⟩
theorem zcls3 : zcls 3 RX3 TX3 3 tyX3 := ⟨rfl, inX3, tyX3_ok, nmX3⟩
theorem zcls4 : zcls 4 RX4 TX4 11 tyX4 := ⟨rfl, inX4, tyX4_ok, nmX4⟩
theorem zcls5 : zcls 5 RX5 TX5 4 tyX5 := ⟨rfl, inX5, tyX5_ok, nmX5⟩
theorem zcls6 : zcls 6 RX6 TX6 4 tyX6 := ⟨rfl, inX6, tyX6_ok, nmX6⟩
theorem zcls7 : zcls 7 RX7 TX7 5 tyX7 := ⟨rfl, inX7, tyX7_ok, nmX7⟩
theorem zcls8 : zcls 8 RX8 TX8 7 tyX8 := ⟨rfl, inX8, tyX8_ok, nmX8⟩
theorem zcls9 : zcls 9 RX9 TX9 5 tyX9 := ⟨rfl, inX9, tyX9_ok, nmX9⟩
theorem zcls10 : zcls 10 RX10 TX10 10 tyX10 := ⟨rfl, inX10, tyX10_ok, nmX10⟩
theorem zcls11 : zcls 11 RX11 TX11 56 tyX11 := ⟨rfl, inX11, tyX11_ok, nmX11⟩
/-- the entry idx of the class own is the field j of the class ci -/
def zfl (own : String) (idx ci j : Nat) : Prop := ∃ (C : String) (T : u_T) (N : Nat) (ty : Nat → FieldType), zcls ci C T N ty ∧ j < N ∧ Cond.fieldLink own idx (T j).1 (T j).2.1 (T j).2.2.1 ∈ zTB
def zfp (own : String) (idx ci j : Nat) (fin : Bool) (t : FieldType) : Prop := ∃ (C : String) (T : u_T) (N : Nat) (ty : Nat → FieldType), zcls ci C T N ty ∧ j < N ∧ Cond.fieldLink own idx (T j).1 (T j).2.1 (T j).2.2.1 ∈ zTB ∧ (T j).2.2.2 = fin ∧ parseFieldDescriptor (T j).2.2.1 = some t ∧ (fin = true → (T j).1 = own)
section ZF
variable {M : zM} {X : Nat × (Nat → Int32)} {sk : List zK} {S : zS} {L : zL} {cn : Nat × Nat} {pc : Nat} {lv : List (Option Value)} {st : List Value} {post : zP}
theorem zi_getv {idx ci j k : Nat} {fl : List (Option (Option Nat))} {f : Option (Option Nat)} (hf : zfl (zy M).cls idx ci j) (hk : sk[k]? = some (.inr (ci, fl))) (hj : fl[j]? = some f) (d : decode (zb M) pc = .ok (.getfield idx, 3)) {v : Value} (hv : ∀ ad, zv ad v = zf ad S k j f) (kk : zV M X sk S L cn (pc + 3) lv (v :: st) post) : zV M X sk S L cn pc lv (.ref k :: st) post := by
  intro p l e s m args below meth c H locs A ad ad0 n0 D cs ls hX hn hP hD hS hl
  obtain ⟨C, T, N, ty, ⟨hc, hin, hty, hnm⟩, hN, hlk⟩ := hf
  have h1 := kk p l e s m args below meth c H locs A ad ad0 n0 D cs ls hX hn hP hD hS hl
  refine va_get (D := D) (ci := ci) (v := zv ad v) (C := C) (T := T) (N := N) hX.1.1 hX.1.2.1 hX.1.2.2.2.2.2.1 hin hX.1.2.2.2.2.1 hX.2.1.1 hP k (zw_get hk) hc j hN (hX.1.2.2.2.2.2.1 _ hlk) (fun _ h9 => h9) ?_ d h1
  rw [hv, List.getElem?_mapIdx, hj]
  rfl
theorem zi_geti {idx ci j k : Nat} {fl : List (Option (Option Nat))} (hf : zfl (zy M).cls idx ci j) (hk : sk[k]? = some (.inr (ci, fl))) (hj : fl[j]? = some none) (d : decode (zb M) pc = .ok (.getfield idx, 3)) (kk : zV M X sk S L cn (pc + 3) lv (.int (S k j) :: st) post) : zV M X sk S L cn pc lv (.ref k :: st) post := zi_getv hf hk hj d (fun _ => rfl) kk
theorem zi_getr {idx ci j k r : Nat} {fl : List (Option (Option Nat))} (hf : zfl (zy M).cls idx ci j) (hk : sk[k]? = some (.inr (ci, fl))) (hj : fl[j]? = some (some (some r))) (d : decode (zb M) pc = .ok (.getfield idx, 3)) (kk : zV M X sk S L cn (pc + 3) lv (.ref r :: st) post) : zV M X sk S L cn pc lv (.ref k :: st) post := zi_getv hf hk hj d (fun _ => rfl) kk
theorem zi_putv {idx ci j k : Nat} {t : FieldType} {x : Int32} {fl : List (Option (Option Nat))} (hf : zfp (zy M).cls idx ci j false t) (hk : sk[k]? = some (.inr (ci, fl))) (hj : fl[j]? = some none) (hnr : narrow t (.int x) = .int x) (hft : fits t (.int x) = true) (d : decode (zb M) pc = .ok (.putfield idx, 3)) (kk : zV M X sk (zc S k (upd (S k) j x)) L cn (pc + 3) lv st post) : zV M X sk S L cn pc lv (.int x :: .ref k :: st) post := by
  intro p l e s m args below meth c H locs A ad ad0 n0 D cs ls hX hn hP hD hS hl
  obtain ⟨C, T, N, ty, ⟨hc, hin, hty, hnm⟩, hN, hlk, hfin, hpd, -⟩ := hf
  have hjl : j < fl.length := (List.getElem?_eq_some_iff.mp hj).1
  refine va_put (D := D) (ci := ci) (v := .int x) (ty := t) (C := C) (T := T) (N := N) hX.1.1 hX.1.2.1 hX.1.2.2.2.2.2.1 hin ty hty hnm hX.1.2.2.2.2.1 hX.2.1.1 hP hD hS k (zw_get hk) hc j hN (hX.1.2.2.2.2.2.1 _ hlk) (fun _ h9 => h9) hfin hpd hnr hft (by simp; exact hjl) d (fun H locs hP hD hS => ?_)
  have e1 : (zw ad cs sk S L).set k (ad k, .inr (ci, (fl.mapIdx (zf ad S k)).set j (.int x))) = zw ad cs sk (zc S k (upd (S k) j x)) L := by
    rw [zf_set hj]
    exact zw_set1 hk (fun i hi => zc_ne _ _ hi) (fun _ _ => rfl)
  rw [e1] at hP hD
  exact kk p l e s m args below meth c H locs A ad ad0 n0 D cs ls hX hn hP hD hS hl
theorem zi_puti {idx ci j k : Nat} {x : Int32} {fl : List (Option (Option Nat))} (hf : zfp (zy M).cls idx ci j false .int) (hk : sk[k]? = some (.inr (ci, fl))) (hj : fl[j]? = some none) (d : decode (zb M) pc = .ok (.putfield idx, 3)) (kk : zV M X sk (zc S k (upd (S k) j x)) L cn (pc + 3) lv st post) : zV M X sk S L cn pc lv (.int x :: .ref k :: st) post := zi_putv hf hk hj rfl rfl d kk
/-- a final field, in its constructor -/
theorem zi_putr {idx ci j k r : Nat} {t : FieldType} {fl : List (Option (Option Nat))} (hf : zfp (zy M).cls idx ci j true t) (hi : (zy M).name = "<init>") (hk : sk[k]? = some (.inr (ci, fl))) (hj : j < fl.length) (hnr : ∀ a, narrow t (.ref a) = .ref a) (hft : ∀ a, fits t (.ref a) = true) (d : decode (zb M) pc = .ok (.putfield idx, 3)) (kk : zV M X (sk.set k (.inr (ci, fl.set j (some (some r))))) S L cn (pc + 3) lv st post) : zV M X sk S L cn pc lv (.ref r :: .ref k :: st) post := by
  intro p l e s m args below meth c H locs A ad ad0 n0 D cs ls hX hn hP hD hS hl
  obtain ⟨C, T, N, ty, ⟨hc, hin, hty, hnm⟩, hN, hlk, hfin, hpd, hown⟩ := hf
  refine va_putF (D := D) (ci := ci) (v := .ref (ad r)) (ty := t) (C := C) (T := T) (N := N) hX.1.1 hX.1.2.1 hX.1.2.2.2.2.2.1 hin ty hty hnm hX.1.2.2.2.2.1 hX.2.1.1 hP hD hS k (zw_get hk) hc j hN (hX.1.2.2.2.2.2.1 _ hlk) (fun _ h9 => h9) hfin (hX.1.2.2.2.2.2.2.1.trans hi) (hown rfl) hpd (hnr _) (hft _) (by simp; exact hj) d (fun H locs hP hD hS => ?_)
  have e1 : (zw ad cs sk S L).set k (ad k, .inr (ci, (fl.mapIdx (zf ad S k)).set j (.ref (ad r)))) = zw ad cs (sk.set k (.inr (ci, fl.set j (some (some r))))) S L := by
    rw [zf_setR hj]
    exact zw_set (c' := .inr (ci, fl.set j (some (some r)))) hk (fun _ _ => rfl) (fun _ _ => rfl)
  rw [e1] at hP hD
  exact kk p l e s m args below meth c H locs A ad ad0 n0 D cs ls hX ⟨by rw [List.length_set]; exact hn.1, hn.2⟩ hP hD hS hl
/-! arrays -/
theorem zi_iald {k n : Nat} {i : Int32} (hk : sk[k]? = some (.inl (0, n))) (hi : vp_in i n) (d : decode (zb M) pc = .ok (.iaload, 1)) (kk : zV M X sk S L cn (pc + 1) lv (.int (S k i.toNatClampNeg) :: st) post) : zV M X sk S L cn pc lv (.int i :: .ref k :: st) post := by
  intro p l e s m args below meth c H locs A ad ad0 n0 D cs ls hX hn hP hD hS hl
  exact va_iald (f := S k) hX.1.1 hX.1.2.1 hX.2.1.1 hP k 0 (zw_get hk) rfl hi d (kk p l e s m args below meth c H locs A ad ad0 n0 D cs ls hX hn hP hD hS hl)
theorem zi_lald {k n : Nat} {i : Int32} (hk : sk[k]? = some (.inl (1, n))) (hi : vp_in i n) (d : decode (zb M) pc = .ok (.laload, 1)) (kk : zV M X sk S L cn (pc + 1) lv (.long (L k i.toNatClampNeg) :: st) post) : zV M X sk S L cn pc lv (.int i :: .ref k :: st) post := by
  intro p l e s m args below meth c H locs A ad ad0 n0 D cs ls hX hn hP hD hS hl
  exact va_lald (f := L k) hX.1.1 hX.1.2.1 hX.2.1.1 hP k 1 (zw_get hk) rfl hi d (kk p l e s m args below meth c H locs A ad ad0 n0 D cs ls hX hn hP hD hS hl)
theorem zi_zald {k n : Nat} {i : Int32} (hk : sk[k]? = some (.inl (2, n))) (hi : vp_in i n) (d : decode (zb M) pc = .ok (.baload, 1)) (kk : zV M X sk S L cn (pc + 1) lv (.int (S k i.toNatClampNeg) :: st) post) : zV M X sk S L cn pc lv (.int i :: .ref k :: st) post := by
  intro p l e s m args below meth c H locs A ad ad0 n0 D cs ls hX hn hP hD hS hl
  exact va_zald (f := S k) hX.1.1 hX.1.2.1 hX.2.1.1 hP k 2 (zw_get hk) rfl hi d (kk p l e s m args below meth c H locs A ad ad0 n0 D cs ls hX hn hP hD hS hl)
theorem zi_iast {k n : Nat} {i x : Int32} (hk : sk[k]? = some (.inl (0, n))) (hi : vp_in i n) (d : decode (zb M) pc = .ok (.iastore, 1)) (kk : zV M X sk (zc S k (upd (S k) i.toNatClampNeg x)) L cn (pc + 1) lv st post) : zV M X sk S L cn pc lv (.int x :: .int i :: .ref k :: st) post := by
  intro p l e s m args below meth c H locs A ad ad0 n0 D cs ls hX hn hP hD hS hl
  refine va_iast (f := S k) hX.1.1 hX.1.2.1 hX.2.1.1 hP hD hS k 0 (zw_get hk) rfl hi d (fun H locs hP hD hS => ?_)
  have e1 : (zw ad cs sk S L).set k (ad k, .inl (cs.1, n, .inl (upd (S k) i.toNatClampNeg x))) = zw ad cs sk (zc S k (upd (S k) i.toNatClampNeg x)) L := by
    rw [← zw_set1 (S' := zc S k (upd (S k) i.toNatClampNeg x)) (L' := L) hk (fun i hi => zc_ne _ _ hi) (fun _ _ => rfl)]
    simp only [ze, zc_eq]
  rw [e1] at hP hD
  exact kk p l e s m args below meth c H locs A ad ad0 n0 D cs ls hX hn hP hD hS hl
theorem zi_zast {k n : Nat} {i x : Int32} (hk : sk[k]? = some (.inl (2, n))) (hi : vp_in i n) (d : decode (zb M) pc = .ok (.bastore, 1)) (kk : zV M X sk (zc S k (upd (S k) i.toNatClampNeg (vp_nar .boolean x))) L cn (pc + 1) lv st post) : zV M X sk S L cn pc lv (.int x :: .int i :: .ref k :: st) post := by
  intro p l e s m args below meth c H locs A ad ad0 n0 D cs ls hX hn hP hD hS hl
  refine va_zast (f := S k) hX.1.1 hX.1.2.1 hX.2.1.1 hP hD hS k 2 (zw_get hk) rfl hi d (fun H locs hP hD hS => ?_)
  have e1 : (zw ad cs sk S L).set k (ad k, .inl (cs.2.2, n, .inl (upd (S k) i.toNatClampNeg (vp_nar .boolean x)))) = zw ad cs sk (zc S k (upd (S k) i.toNatClampNeg (vp_nar .boolean x))) L := by
    rw [← zw_set1 (S' := zc S k (upd (S k) i.toNatClampNeg (vp_nar .boolean x))) (L' := L) hk (fun i hi => zc_ne _ _ hi) (fun _ _ => rfl)]
    simp only [ze, zc_eq]
  rw [e1] at hP hD
  exact kk p l e s m args below meth c H locs A ad ad0 n0 D cs ls hX hn hP hD hS hl
theorem zi_last {k n : Nat} {i : Int32} {x : Int64} (hk : sk[k]? = some (.inl (1, n))) (hi : vp_in i n) (d : decode (zb M) pc = .ok (.lastore, 1)) (kk : zV M X sk S (zc L k (vp_updL (L k) i.toNatClampNeg x)) cn (pc + 1) lv st post) : zV M X sk S L cn pc lv (.long x :: .int i :: .ref k :: st) post := by
  intro p l e s m args below meth c H locs A ad ad0 n0 D cs ls hX hn hP hD hS hl
  refine va_last (f := L k) hX.1.1 hX.1.2.1 hX.2.1.1 hP hD hS k 1 (zw_get hk) rfl hi d (fun H locs hP hD hS => ?_)
  have e1 : (zw ad cs sk S L).set k (ad k, .inl (cs.2.1, n, .inr (.inl (vp_updL (L k) i.toNatClampNeg x)))) = zw ad cs sk S (zc L k (vp_updL (L k) i.toNatClampNeg x)) := by
    rw [← zw_set1 (S' := S) (L' := zc L k (vp_updL (L k) i.toNatClampNeg x)) hk (fun _ _ => rfl) (fun i hi => zc_ne _ _ hi)]
    simp only [ze, zc_eq]
  rw [e1] at hP hD
  exact kk p l e s m args below meth c H locs A ad ad0 n0 D cs ls hX hn hP hD hS hl
theorem zi_alen {k t n : Nat} {v : Int32} (hk : sk[k]? = some (.inl (t, n))) (hv : Int32.ofNat n = v) (d : decode (zb M) pc = .ok (.arraylength, 1)) (kk : zV M X sk S L cn (pc + 1) lv (.int v :: st) post) : zV M X sk S L cn pc lv (.ref k :: st) post := by
  intro p l e s m args below meth c H locs A ad ad0 n0 D cs ls hX hn hP hD hS hl
  have h1 := kk p l e s m args below meth c H locs A ad ad0 n0 D cs ls hX hn hP hD hS hl
  have hg := zw_get (ad := ad) (cs := cs) (S := S) (L := L) hk
  match t, hg with
  | 0, hg => exact va_alen hX.1.1 hX.1.2.1 hX.2.1.1 hP k 0 hg rfl hv d h1
  | 1, hg => exact va_alen hX.1.1 hX.1.2.1 hX.2.1.1 hP k 1 hg rfl hv d h1
  | _ + 2, hg => exact va_alen hX.1.1 hX.1.2.1 hX.2.1.1 hP k 2 hg rfl hv d h1
end ZF
end
section
/-! CALLS -/
theorem zgood {N : zM} (hc : Cond.code (zy N) (zb N) (zn N) (zr N) ∈ zTB) : GoodIn zTB (zws N) := by
  intro w hw
  rcases List.mem_cons.mp hw with h | h
  · subst h
    exact ⟨hc, good_of_word (zTB_good _ hc)⟩
  · exact ⟨h, good_of_word (zTB_good _ h)⟩
theorem zA_in {A : Nat → Prop} {ws : va_W} {H0 H : Heap} {locs : List Loc} (hD : va_D A ws) (hS : va_S A H0 H locs) (hA : ∀ q, H0.size ≤ q → A q) : ∀ q, va_A ws H.size q → A q := by
  intro q h
  rcases h with ⟨k, e, h⟩ | h
  · exact hD.2 k _ h
  · exact hA q (Nat.le_trans hS.1 h)
/-- the start of a call, in the caller's state -/
theorem zPc_of {M : zM} {X : Nat × (Nat → Int32)} {p : Program} {s : State} {m : MethodId} {args : Array Value} {meth : Method} {c : Code} {A : Nat → Prop} {ad : Nat → Nat} {D : va_G} {cs : zA} {sk : List zK} {S : zS} {L : zL} {H : Heap} {locs : List Loc} {av : List Value}
    (hX : zX M X p s m args meth c A ad D cs) (hP : va_P D vwCl (zw ad cs sk S L) H) (hD : va_D A (zw ad cs sk S L)) (hS : va_S A s.heap H locs) : ∀ U : State, U.heap = H → s.WarmedH U.vm → zPc ad D cs H.size sk S L av (av.map (zv ad)).toArray U := by
  intro U hU hW
  subst hU
  exact ⟨rfl, rfl, hP, hD.weaken (fun _ _ _ _ => trivial), va_K.moved hW.alike hX.2.1.1, hX.2.2.1.go hW hS.2.1 (zA_in hD hS hX.2.1.2)⟩
section ZB
variable {p : Program} {l : Launch} {e : Env} {R : Room} {s : State} {m : MethodId} {args : Array Value} {below : List Frame} {meth : Method} {c : Code} {H : Heap} {locs : List Loc} {cells slots : Nat} {Q : State → Prop}
theorem z_back {pc : Nat} {ls : Array Slot} {rest st0 : List Value} {a : Array Value} {A A1 : Nat → Prop} {mc ms n0 : Nat} {ad0 : Nat → Nat} {D : va_G} {cs : zA} {post1 : zP}
    (hr : va_Run p l e R s m args below meth c H locs cells slots mc ms (F0 m pc ls st0) rest (zQ n0 ad0 A1 D cs post1 a) A1) (hS : va_S A s.heap H locs) (hA : ∀ q, A1 q → A q)
    (kk : ∀ (r : Option Value) (sk : List zK) (S : zS) (L : zL) (ad : Nat → Nat) (H1 : Heap) (locs1 : List Loc), post1 r sk S L → n0 ≤ sk.length → zag n0 ad0 ad → va_P D vwCl (zw ad cs sk S L) H1 → va_D A (zw ad cs sk S L) → va_S A s.heap H1 locs1 →
      W p l e R s m args below meth c H1 locs1 (cells + mc) (slots + ms) Q (F0 m (pc + 3) ls ((r.map (zv ad)).toList ++ rest))) : W p l e R s m args below meth c H locs cells slots Q (F0 m pc ls st0) := by
  intro T hT X
  obtain ⟨v, st₀, t, T', L9, h0, X', hL, e1, e2, ⟨⟨r, sk, S, L, ad, hv, hp, hn, hag, hP1, hD1⟩, hz, hk⟩, st⟩ := hr T hT X
  cases hv
  rw [h0] at hz hk
  obtain ⟨t2, a1, b1⟩ := kk r sk S L ad T'.heap (locs ++ L9) hp hn hag (by rw [e1]; exact hP1) (hD1.weaken (fun _ _ _ h => hA _ h))
    ⟨Nat.le_trans hS.1 (by rw [e1]; exact hz), fun q h1 h2 => by rw [e1, hk q (Nat.lt_of_lt_of_le h1 hS.1) (fun z => h2 (hA q z))]; exact hS.2.1 q h1 h2, fun q hq => by
      rcases List.mem_append.mp hq with h | h
      · exact hS.2.2 q h
      · exact hA _ (hL q h)⟩ T' rfl X'
  exact ⟨t2, st t2 a1, b1⟩
end ZB
/-- the entry idx of the class own is the method N, of n parameters -/
def zlk (own : String) (idx : Nat) (N : zM) (n : Nat) : Prop :=
  Cond.methodLink own idx (zy N) ∈ zTB ∧ Cond.code (zy N) (zb N) (zn N) (zr N) ∈ zTB ∧ Cond.initialized (zy N).cls ∈ zTB ∧ (zy N).cls ≠ "java/lang/invoke/MethodHandle" ∧ (zy N).cls ≠ "java/lang/invoke/VarHandle" ∧ (parseMethodDescriptor (zy N).desc).map (fun d => d.parameters.length) = some n
def zlV (own : String) (idx : Nat) (N : zM) (n : Nat) : Prop := zlk own idx N n ∧ Cond.instanceMethod (zy N) ∈ zTB ∧ Cond.selects (zy N).cls (zy N) (zy N) ∈ zTB
def zlS (own : String) (idx : Nat) (N : zM) (n : Nat) : Prop := zlk own idx N n ∧ Cond.static (zy N) ∈ zTB
def zlI (own : String) (idx : Nat) (N : zM) (n : Nat) : Prop := zlk own idx N n ∧ (zy N).name = "<init>" ∧ zr N = none ∧ Cond.instanceMethod (zy N) ∈ zTB
def zlN (own : String) (idx : Nat) (N : zM) (n : Nat) : Prop := (∃ q ∈ zNw, q.1 = own ∧ q.2.1 = idx ∧ q.2.2.1 = zy N) ∧ (zy N).name = "<init>" ∧ zr N = none ∧ Cond.instanceMethod (zy N) ∈ zTB ∧ Cond.code (zy N) (zb N) (zn N) (zr N) ∈ zTB ∧ Cond.initialized (zy N).cls ∈ zTB ∧ (zy N).cls ≠ "java/lang/invoke/MethodHandle" ∧ (zy N).cls ≠ "java/lang/invoke/VarHandle" ∧ (parseMethodDescriptor (zy N).desc).map (fun d => d.parameters.length) = some n
def zrm (M N : zM) : Prop := (zm N).frames + 1 ≤ (zm M).frames ∧ 8 + (zn N + 11) + (zm N).locals ≤ (zm M).locals
theorem zcb {M N : zM} {own : String} {idx n : Nat} {s : State} {args : Array Value} (hts : ∀ w ∈ zTB, w.before args s = true) (h : zlk own idx N n) (hR : zrm M N) : CallB (zm M) s args own idx (zy N) (zb N) (zn N) (zr N) (zws N) (zm N) (zm N).cells (zm N).slots n := by
  obtain ⟨h1, h2, h3, h4⟩ := h
  exact callB_of n hts (zgood h2) rfl rfl rfl (hts _ h3) (hts _ h1) h4 hR
section ZC
variable {M N : zM} {X : Nat × (Nat → Int32)} {sk : List zK} {S : zS} {L : zL} {cn : Nat × Nat} {pc : Nat} {lv : List (Option Value)} {st : List Value} {post post1 : zP} {idx n b n9 : Nat} {As : List Value}
/-- behind a call -/
theorem zgo {p : Program} {l : Launch} {e : Env} {s : State} {m : MethodId} {args : Array Value} {below : List Frame} {meth : Method} {c : Code} {H : Heap} {locs : List Loc} {A : Nat → Prop} {ad ad0 : Nat → Nat} {n0 : Nat} {D : va_G} {cs : zA} {ls : Array Slot} {a : Array Value} {st0 : List Value}
    (hX : zX M X p s m args meth c A ad D cs) (hn : n0 ≤ sk.length ∧ zag n0 ad0 ad) (hP : va_P D vwCl (zw ad cs sk S L) H) (hD : va_D A (zw ad cs sk S L)) (hS : va_S A s.heap H locs) (hl : lv_has ls (zn M) (zlv ad lv))
    (hok : n9 ≤ sk.length ∧ zokL n9 lv = true ∧ st.all (zok n9) = true)
    (kk : ∀ (r : Option Value) (sk' : List zK) (S' : zS) (L' : zL), sk.length ≤ sk'.length → post1 r sk' S' L' → zV M X sk' S' L' (cn.1 + (zm N).cells, cn.2 + (zm N).slots) (pc + 3) lv (r.toList ++ st) post)
    (hr : va_Run p l e (zm M) s m args below meth c H locs cn.1 cn.2 (zm N).cells (zm N).slots (F0 m pc ls st0) (st.map (zv ad)) (zQ sk.length ad (va_A (zw ad cs sk S L) H.size) D cs post1 a) (va_A (zw ad cs sk S L) H.size)) :
    W p l e (zm M) s m args below meth c H locs cn.1 cn.2 (MQ below (zQ n0 ad0 A D cs post) args s (zm M).cells (zm M).slots A) (F0 m pc ls st0) := by
  refine z_back hr hS (zA_in hD hS hX.2.1.2) (fun r sk' S' L' ad' H1 locs1 hp hle hag hP1 hD1 hS1 => ?_)
  have hag9 : zag n9 ad ad' := fun k hk => hag k (hk.imp (fun h => Nat.lt_of_lt_of_le h hok.1) id)
  have e1 : st.map (zv ad) = st.map (zv ad') := (zok_map hag9 hok.2.2).symm
  have e2 : (r.map (zv ad')).toList ++ st.map (zv ad) = (r.toList ++ st).map (zv ad') := by
    rw [e1, List.map_append]
    cases r <;> rfl
  rw [e2]
  obtain ⟨x1, x2, x3, x4⟩ := hX
  refine kk r sk' S' L' hle hp p l e s m args below meth c H1 locs1 A ad' ad0 n0 D cs ls ⟨x1, x2, x3.ag hag9, fun h => ?_⟩ ⟨Nat.le_trans hn.1 hle, hn.2.trans hag hn.1⟩ hP1 hD1 hS1 (zlv_sub hl (zok_mapL hag9 hok.2.1))
  rw [hag 999 (Or.inr (by omega))]
  exact x4 h
theorem zi_callV (d : decode (zb M) pc = .ok (.invokevirtual idx, 3)) (hlk : zlV (zy M).cls idx N n) {ci : Nat} {fl : List (Option (Option Nat))} (hb : sk[b]? = some (.inr (ci, fl))) (hci : (vwCl[ci]?).map (fun q => q.1) = some (zy N).cls) (hR : zrm M N) (hn9 : As.length = n) (hcn : cn.1 + (zm N).cells ≤ (zm M).cells ∧ cn.2 + (zm N).slots ≤ (zm M).slots) (hst : (st.map fun v => v.category).sum ≤ 8) (hok : n9 ≤ sk.length ∧ zokL n9 lv = true ∧ st.all (zok n9) = true)
    (hc : zCall N sk S L (.ref b :: As) post1) (kk : ∀ (r : Option Value) (sk' : List zK) (S' : zS) (L' : zL), sk.length ≤ sk'.length → post1 r sk' S' L' → zV M X sk' S' L' (cn.1 + (zm N).cells, cn.2 + (zm N).slots) (pc + 3) lv (r.toList ++ st) post) : zV M X sk S L cn pc lv (As.reverse ++ .ref b :: st) post := by
  intro p l e s m args below meth c H locs A ad ad0 n0 D cs ls hX hn hP hD hS hl
  obtain ⟨q9, hq9, hcl⟩ := Option.map_eq_some_iff.mp hci
  have hts := hX.1.2.2.2.2.2.1
  refine zgo (n9 := n9) (a := (Value.ref (ad b) :: As.map (zv ad)).toArray) hX hn hP hD hS hl hok kk ?_
  refine va_runV (As := As.map (zv ad)) (C := (zy N).cls) (b := ad b) ⟨hX.1.1, hX.1.2.1, hX.1.2.2.2.1, hX.1.2.2.2.2.1, hts⟩ (hc l ad D cs H.size) ⟨zcb hts hlk.1 hR, hts _ hlk.2.1, hts _ hlk.2.2⟩ ⟨zPc_blind, ?_, zPc_of (av := .ref b :: As) hX hP hD hS⟩ rfl (by rw [List.length_map]; exact hn9) hl.1 (by simp [zv]) (lv_room (by rw [zv_cats]; exact hst)) d hcn
  rw [← hcl]
  exact va_recv hX.2.1.1 hP hq9 (zw_get hb)
/-- a String constant's method -/
theorem zi_callT {i : Nat} (d : decode (zb M) pc = .ok (.invokevirtual idx, 3)) (hlk : zlV (zy M).cls idx N n) (hi : i < zSn) (hci : (zy N).cls = "java/lang/String") (hR : zrm M N) (hn9 : As.length = n) (hcn : cn.1 + (zm N).cells ≤ (zm M).cells ∧ cn.2 + (zm N).slots ≤ (zm M).slots) (hst : (st.map fun v => v.category).sum ≤ 8) (hok : n9 ≤ sk.length ∧ zokL n9 lv = true ∧ st.all (zok n9) = true)
    (hc : zCall N sk S L (.ref (1000 + i) :: As) post1) (kk : ∀ (r : Option Value) (sk' : List zK) (S' : zS) (L' : zL), sk.length ≤ sk'.length → post1 r sk' S' L' → zV M X sk' S' L' (cn.1 + (zm N).cells, cn.2 + (zm N).slots) (pc + 3) lv (r.toList ++ st) post) : zV M X sk S L cn pc lv (As.reverse ++ .ref (1000 + i) :: st) post := by
  intro p l e s m args below meth c H locs A ad ad0 n0 D cs ls hX hn hP hD hS hl
  have hts := hX.1.2.2.2.2.2.1
  refine zgo (n9 := n9) (a := (Value.ref (ad (1000 + i)) :: As.map (zv ad)).toArray) hX hn hP hD hS hl hok kk ?_
  refine va_runV (As := As.map (zv ad)) (C := (zy N).cls) (b := ad (1000 + i)) ⟨hX.1.1, hX.1.2.1, hX.1.2.2.2.1, hX.1.2.2.2.2.1, hts⟩ (hc l ad D cs H.size) ⟨zcb hts hlk.1 hR, hts _ hlk.2.1, hts _ hlk.2.2⟩ ⟨zPc_blind, ?_, zPc_of (av := .ref (1000 + i) :: As) hX hP hD hS⟩ rfl (by rw [List.length_map]; exact hn9) hl.1 (by simp [zv]) (lv_room (by rw [zv_cats]; exact hst)) d hcn
  rw [hci]
  exact vk_recv (adK := fun i => ad (1000 + i)) (i := i) hX.2.2.1.1 hi hS
theorem zi_callS (d : decode (zb M) pc = .ok (.invokestatic idx, 3)) (hlk : zlS (zy M).cls idx N n) (hR : zrm M N) (hn9 : As.length = n) (hcn : cn.1 + (zm N).cells ≤ (zm M).cells ∧ cn.2 + (zm N).slots ≤ (zm M).slots) (hst : (st.map fun v => v.category).sum ≤ 8) (hok : n9 ≤ sk.length ∧ zokL n9 lv = true ∧ st.all (zok n9) = true)
    (hc : zCall N sk S L As post1) (kk : ∀ (r : Option Value) (sk' : List zK) (S' : zS) (L' : zL), sk.length ≤ sk'.length → post1 r sk' S' L' → zV M X sk' S' L' (cn.1 + (zm N).cells, cn.2 + (zm N).slots) (pc + 3) lv (r.toList ++ st) post) : zV M X sk S L cn pc lv (As.reverse ++ st) post := by
  intro p l e s m args below meth c H locs A ad ad0 n0 D cs ls hX hn hP hD hS hl
  have hts := hX.1.2.2.2.2.2.1
  refine zgo (n9 := n9) (a := (As.map (zv ad)).toArray) hX hn hP hD hS hl hok kk ?_
  exact va_runS (As := As.map (zv ad)) ⟨hX.1.1, hX.1.2.1, hX.1.2.2.2.1, hX.1.2.2.2.2.1, hts⟩ (hc l ad D cs H.size) ⟨zcb hts hlk.1 hR, hts _ hlk.2⟩ ⟨zPc_blind, zPc_of (av := As) hX hP hD hS⟩ rfl (by rw [List.length_map]; exact hn9) hl.1 (by simp) (lv_room (by rw [zv_cats]; exact hst)) d hcn
theorem zi_callI (d : decode (zb M) pc = .ok (.invokespecial idx, 3)) (hlk : zlI (zy M).cls idx N n) (hR : zrm M N) (hn9 : As.length = n) (hcn : cn.1 + (zm N).cells ≤ (zm M).cells ∧ cn.2 + (zm N).slots ≤ (zm M).slots) (hst : (st.map fun v => v.category).sum ≤ 8) (hok : n9 ≤ sk.length ∧ zokL n9 lv = true ∧ st.all (zok n9) = true)
    (hc : zCall N sk S L (.ref b :: As) post1) (kk : ∀ (r : Option Value) (sk' : List zK) (S' : zS) (L' : zL), sk.length ≤ sk'.length → post1 r sk' S' L' → zV M X sk' S' L' (cn.1 + (zm N).cells, cn.2 + (zm N).slots) (pc + 3) lv (r.toList ++ st) post) : zV M X sk S L cn pc lv (As.reverse ++ .ref b :: st) post := by
  intro p l e s m args below meth c H locs A ad ad0 n0 D cs ls hX hn hP hD hS hl
  have hts := hX.1.2.2.2.2.2.1
  refine zgo (n9 := n9) (a := (Value.ref (ad b) :: As.map (zv ad)).toArray) hX hn hP hD hS hl hok kk ?_
  have hcb := zcb hts hlk.1 hR
  rw [hlk.2.2.1] at hcb
  exact va_runI (As := As.map (zv ad)) (b := ad b) ⟨hX.1.1, hX.1.2.1, hX.1.2.2.2.1, hX.1.2.2.2.2.1, hts⟩ (hc l ad D cs H.size) ⟨hcb, hlk.2.1, hts _ hlk.2.2.2⟩ ⟨zPc_blind, zPc_of (av := .ref b :: As) hX hP hD hS⟩ rfl (by rw [List.length_map]; exact hn9) hl.1 (by simp [zv]) (lv_room (by rw [zv_cats]; exact hst)) d hcn
theorem zi_callN (d : decode (zb M) pc = .ok (.invokespecial idx, 3)) (hlk : zlN (zy M).cls idx N n) (hR : zrm M N) (hn9 : As.length = n) (hcn : cn.1 + (zm N).cells ≤ (zm M).cells ∧ cn.2 + (zm N).slots ≤ (zm M).slots) (hst : (st.map fun v => v.category).sum ≤ 8) (hok : n9 ≤ sk.length ∧ zokL n9 lv = true ∧ st.all (zok n9) = true)
    (hc : zCall N sk S L (.ref b :: As) post1) (kk : ∀ (r : Option Value) (sk' : List zK) (S' : zS) (L' : zL), sk.length ≤ sk'.length → post1 r sk' S' L' → zV M X sk' S' L' (cn.1 + (zm N).cells, cn.2 + (zm N).slots) (pc + 3) lv (r.toList ++ st) post) : zV M X sk S L cn pc lv (As.reverse ++ .ref b :: st) post := by
  intro p l e s m args below meth c H locs A ad ad0 n0 D cs ls hX hn hP hD hS hl
  have hts := hX.1.2.2.2.2.2.1
  refine zgo (n9 := n9) (a := (Value.ref (ad b) :: As.map (zv ad)).toArray) hX hn hP hD hS hl hok kk ?_
  obtain ⟨⟨q, hq, rfl2, rfl3, hqy⟩, hi, hr, hin, hcd, hini, hd9⟩ := hlk
  have hnw := hX.2.2.1.2.2.2 q hq
  rw [rfl2, rfl3, hqy] at hnw
  have hcb : va_CN (zm M) s args (zy M).cls idx (zy N) q.2.2.2 (zb N) (zn N) (zr N) (zws N) (zm N) (zm N).cells (zm N).slots n := va_cnB n hts (zgood hcd) rfl rfl rfl hnw (hts _ hini) hd9 hR
  rw [hr] at hcb
  exact va_runIN (As := As.map (zv ad)) (b := ad b) ⟨hX.1.1, hX.1.2.1, hX.1.2.2.2.1, hX.1.2.2.2.2.1, hts⟩ (hc l ad D cs H.size) ⟨hcb, hi, hts _ hin⟩ ⟨zPc_blind, zPc_of (av := .ref b :: As) hX hP hD hS⟩ rfl (by rw [List.length_map]; exact hn9) hl.1 (by simp [zv]) (lv_room (by rw [zv_cats]; exact hst)) d hcn
end ZC
end
section
/-! NEW CELLS, THE LIBRARY'S OWN, TEXTS, THE SCRIPT -/
theorem zw_push {ad : Nat → Nat} {cs : zA} {sk : List zK} {S S' : zS} {L L' : zL} {q : Nat} {c : zK} (hok : sk.all (fun c => match c with | .inl _ => true | .inr o => o.2.all (fun f => match f with | some (some r) => decide (r < sk.length) || decide (900 ≤ r) | _ => true)) = true) (hb : sk.length < 900) (hS : ∀ i, i < sk.length → S' i = S i) (hL : ∀ i, i < sk.length → L' i = L i) : zw (zc ad sk.length q) cs (sk ++ [c]) S' L' = zw ad cs sk S L ++ [(q, ze (zc ad sk.length q) cs S' L' sk.length c)] := by
  apply List.ext_getElem?
  intro i
  by_cases hi : i < sk.length
  · rw [List.getElem?_append_left (by simp [zw]; exact hi)]
    simp only [zw, List.getElem?_mapIdx, List.getElem?_append_left hi]
    cases hc : sk[i]? with
    | none => rfl
    | some x =>
      have hx := List.all_eq_true.mp hok x (List.mem_of_getElem? hc)
      have e0 : zc ad sk.length q i = ad i := zc_ne _ _ (Nat.ne_of_lt hi)
      have e1 : ze (zc ad sk.length q) cs S' L' i x = ze ad cs S L i x := by
        rw [ze_congr (hS i hi) (hL i hi)]
        match x, hx with
        | .inl (0, n), _ => rfl
        | .inl (1, n), _ => rfl
        | .inl (_ + 2, n), _ => rfl
        | .inr (ci, fl), hx =>
          simp only [ze]
          congr 2
          apply List.ext_getElem?
          intro j
          simp only [List.getElem?_mapIdx]
          cases hf : fl[j]? with
          | none => rfl
          | some f =>
            have hf2 := List.all_eq_true.mp hx f (List.mem_of_getElem? hf)
            match f, hf2 with
            | none, _ => rfl
            | some none, _ => rfl
            | some (some r), h =>
              have : r ≠ sk.length := by
                intro e
                subst e
                simp at h
                omega
              simp [zf, zc_ne _ _ this]
      simp [e0, e1]
  · by_cases h2 : i = sk.length
    · subst h2
      rw [List.getElem?_append_right (by simp [zw])]
      simp [zw, List.getElem?_mapIdx, zc_eq]
    · rw [List.getElem?_eq_none (by simp [zw]; omega), List.getElem?_eq_none (by simp [zw]; omega)]
def zskok (sk : List zK) : Bool := sk.all (fun c => match c with | .inl _ => true | .inr o => o.2.all (fun f => match f with | some (some r) => decide (r < sk.length) || decide (900 ≤ r) | _ => true))
section ZN
variable {M : zM} {X : Nat × (Nat → Int32)} {sk : List zK} {S : zS} {L : zL} {cn : Nat × Nat} {pc : Nat} {lv : List (Option Value)} {st : List Value} {post : zP}
theorem zag_push {n0 : Nat} {ad0 ad : Nat → Nat} {q : Nat} (h : n0 ≤ sk.length ∧ zag n0 ad0 ad) (hb : sk.length < 900) : zag n0 ad0 (zc ad sk.length q) ∧ zag sk.length ad (zc ad sk.length q) := by
  have h1 : zag sk.length ad (zc ad sk.length q) := fun k hk => zc_ne _ _ (by rcases hk with hk | hk <;> omega)
  exact ⟨h.2.trans h1 h.1, h1⟩
def zfs0 (fl : List (Option (Option Nat))) : List Value := fl.map (fun f => match f with | none => Value.int 0 | some _ => .null)
def zfl0 (fl : List (Option (Option Nat))) : Bool := fl.all (fun f => match f with | some (some _) => false | _ => true)
theorem zfs0_eq {fl : List (Option (Option Nat))} (h : zfl0 fl = true) (ad : Nat → Nat) {S : zS} {k : Nat} (hS : S k = fun _ => 0) : fl.mapIdx (zf ad S k) = zfs0 fl := by
  apply List.ext_getElem?
  intro j
  simp only [zfs0, List.getElem?_mapIdx, List.getElem?_map]
  cases hf : fl[j]? with
  | none => rfl
  | some f =>
    have := List.all_eq_true.mp h f (List.mem_of_getElem? hf)
    match f, this with
    | none, _ => simp [zf, hS]
    | some none, _ => rfl
theorem zi_new {idx ci : Nat} {C : String} {T : u_T} {N : Nat} {ty : Nat → FieldType} {fl : List (Option (Option Nat))} (d : decode (zb M) pc = .ok (.new idx, 3)) (hcl : zcls ci C T N ty) (hlk : Cond.classLink (zy M).cls idx C ∈ zTB ∧ Cond.instantiable C N ∈ zTB ∧ Cond.initialized C ∈ zTB) (hfl : ∀ j, j < N → defaultValue (ty j) = vp_V (zfs0 fl) j) (hfl2 : zfl0 fl = true)
    (hcn : cn.1 + 1 ≤ (zm M).cells ∧ cn.2 + N ≤ (zm M).slots) (hok : zokL sk.length lv = true ∧ st.all (zok sk.length) = true) (hsk : zskok sk = true ∧ sk.length < 900) (kk : zV M X (sk ++ [.inr (ci, fl)]) (zc S sk.length (fun _ => 0)) L (cn.1 + 1, cn.2 + N) (pc + 3) lv (.ref sk.length :: st) post) : zV M X sk S L cn pc lv st post := by
  intro p l e s m args below meth c H locs A ad ad0 n0 D cs ls hX hn hP hD hS hl
  obtain ⟨hc, hin, hty, hnm⟩ := hcl
  have hts := hX.1.2.2.2.2.2.1
  refine va_new (D := D) (ci := ci) (fs := zfs0 fl) (C := C) (T := T) (N := N) hX.1.1 hX.1.2.1 hts hin ty hty hX.1.2.2.2.2.1 (hts _ hlk.1) (hts _ hlk.2.1) (hts _ hlk.2.2) hX.2.1.1 hP hD hS hX.2.1.2 hc hfl hcn.1 hcn.2 d (fun q H1 hP1 hD1 hS1 => ?_)
  have e1 : zw ad cs sk S L ++ [(q, .inr (ci, zfs0 fl))] = zw (zc ad sk.length q) cs (sk ++ [.inr (ci, fl)]) (zc S sk.length (fun _ => 0)) L := by
    rw [zw_push (S := S) (L := L) hsk.1 hsk.2 (fun i hi => zc_ne _ _ (Nat.ne_of_lt hi)) (fun _ _ => rfl)]
    simp only [ze]
    rw [zfs0_eq hfl2 _ (zc_eq _ _ _)]
  rw [e1] at hP1 hD1
  obtain ⟨ag1, ag2⟩ := zag_push (q := q) hn hsk.2
  obtain ⟨x1, x2, x3, x4⟩ := hX
  have h1 := kk p l e s m args below meth c H1 locs A (zc ad sk.length q) ad0 n0 D cs ls ⟨x1, x2, x3.ag ag2, fun h => by rw [ag2 999 (Or.inr (by omega))]; exact x4 h⟩ ⟨by simp; omega, ag1⟩ hP1 hD1 hS1 (zlv_sub hl (zok_mapL ag2 hok.1))
  rw [List.map_cons, zok_map ag2 hok.2] at h1
  simp only [zv, zc_eq] at h1
  exact h1
/-- a new array: 0 of ints, 1 of longs, 2 of booleans -/
def zat : Nat → ArrayType
  | 0 => .int
  | 1 => .long
  | _ + 2 => .boolean
def zcA (cs : zA) : Nat → ClassId
  | 0 => cs.1
  | 1 => cs.2.1
  | _ + 2 => cs.2.2
theorem zcs_eq {D : va_G} {s : State} {cs : zA} {cA : ClassId} {t : Nat} {tys : List (ClassId × FieldType)} (hK : va_K D vwCl (ztys cs) s) (hK2 : va_K D vwCl (tys ++ [(cA, newarray.typeOf (zat t))]) s) : cA = zcA cs t := by
  have h2 := (hK2.2 tys.length (cA, newarray.typeOf (zat t)) (by simp)).2
  match t, h2 with
  | 0, h2 => exact Option.some.inj (h2.symm.trans (hK.2 0 (cs.1, .int) rfl).2)
  | 1, h2 => exact Option.some.inj (h2.symm.trans (hK.2 1 (cs.2.1, .long) rfl).2)
  | _ + 2, h2 => exact Option.some.inj (h2.symm.trans (hK.2 2 (cs.2.2, .boolean) rfl).2)
theorem zi_newa {t N : Nat} {x : Int32} (d : decode (zb M) pc = .ok (.newarray (zat t), 2)) (harr : Cond.arrayClass (newarray.typeOf (zat t)) ∈ zTB) (hx : ¬ x < 0 ∧ x.toNatClampNeg = N ∧ N * 8 ≤ 536870912)
    (hcn : cn.1 + 1 ≤ (zm M).cells ∧ cn.2 + N ≤ (zm M).slots) (hok : zokL sk.length lv = true ∧ st.all (zok sk.length) = true) (hsk : zskok sk = true ∧ sk.length < 900) (kk : zV M X (sk ++ [.inl (t, N)]) (zc S sk.length (fun _ => 0)) (zc L sk.length (fun _ => 0)) (cn.1 + 1, cn.2 + N) (pc + 2) lv (.ref sk.length :: st) post) : zV M X sk S L cn pc lv (.int x :: st) post := by
  intro p l e s m args below meth c H locs A ad ad0 n0 D cs ls hX hn hP hD hS hl
  have hts := hX.1.2.2.2.2.2.1
  have key : ∀ (q : Nat) (H1 : Heap), va_P D vwCl (zw ad cs sk S L ++ [(q, ze (zc ad sk.length q) cs (zc S sk.length (fun _ => 0)) (zc L sk.length (fun _ => 0)) sk.length (.inl (t, N)))]) H1 → va_D A (zw ad cs sk S L ++ [(q, ze (zc ad sk.length q) cs (zc S sk.length (fun _ => 0)) (zc L sk.length (fun _ => 0)) sk.length (.inl (t, N)))]) → va_S A s.heap H1 locs →
      W p l e (zm M) s m args below meth c H1 locs (cn.1 + 1) (cn.2 + N) (MQ below (zQ n0 ad0 A D cs post) args s (zm M).cells (zm M).slots A) (F0 m (pc + 2) ls (.ref q :: st.map (zv ad))) := by
    intro q H1 hP1 hD1 hS1
    rw [← zw_push (S := S) (L := L) hsk.1 hsk.2 (fun i hi => zc_ne _ _ (Nat.ne_of_lt hi)) (fun i hi => zc_ne _ _ (Nat.ne_of_lt hi))] at hP1 hD1
    obtain ⟨ag1, ag2⟩ := zag_push (q := q) hn hsk.2
    obtain ⟨x1, x2, x3, x4⟩ := hX
    have h1 := kk p l e s m args below meth c H1 locs A (zc ad sk.length q) ad0 n0 D cs ls ⟨x1, x2, x3.ag ag2, fun h => by rw [ag2 999 (Or.inr (by omega))]; exact x4 h⟩ ⟨by simp; omega, ag1⟩ hP1 hD1 hS1 (zlv_sub hl (zok_mapL ag2 hok.1))
    rw [List.map_cons, zok_map ag2 hok.2] at h1
    simp only [zv, zc_eq] at h1
    exact h1
  match t, d, harr, key with
  | 0, d, harr, key =>
    refine va_newa (atype := .int) (a0 := (N, .inl (fun _ => 0))) hX.1.1 hX.1.2.1 (hts _ harr) rfl hX.2.1.1 hP hD hS hX.2.1.2 (fun _ => rfl) hx.1 hx.2.1 (by show N * 4 ≤ _; omega) hcn.1 hcn.2 d (fun q cA H1 hK1 hP1 hD1 hS1 => ?_)
    have e : cA = cs.1 := zcs_eq (t := 0) hX.2.1.1 hK1
    subst e
    exact key q H1 (by simp only [ze, zc_eq]; exact hP1) (by simp only [ze, zc_eq]; exact hD1) hS1
  | 1, d, harr, key =>
    refine va_newa (atype := .long) (a0 := (N, .inr (.inl (fun _ => 0)))) hX.1.1 hX.1.2.1 (hts _ harr) rfl hX.2.1.1 hP hD hS hX.2.1.2 (fun _ => rfl) hx.1 hx.2.1 (by show N * 8 ≤ _; omega) hcn.1 hcn.2 d (fun q cA H1 hK1 hP1 hD1 hS1 => ?_)
    have e : cA = cs.2.1 := zcs_eq (t := 1) hX.2.1.1 hK1
    subst e
    exact key q H1 (by simp only [ze, zc_eq]; exact hP1) (by simp only [ze, zc_eq]; exact hD1) hS1
  | t + 2, d, harr, key =>
    refine va_newa (atype := .boolean) (a0 := (N, .inl (fun _ => 0))) hX.1.1 hX.1.2.1 (hts _ harr) rfl hX.2.1.1 hP hD hS hX.2.1.2 (fun _ => rfl) hx.1 hx.2.1 (by show N * 1 ≤ _; omega) hcn.1 hcn.2 d (fun q cA H1 hK1 hP1 hD1 hS1 => ?_)
    have e : cA = cs.2.2 := zcs_eq (t := t + 2) hX.2.1.1 hK1
    subst e
    exact key q H1 (by simp only [ze, zc_eq]; exact hP1) (by simp only [ze, zc_eq]; exact hD1) hS1
/-! the library's own -/
theorem zi_objInit {idx b : Nat} (d : decode (zb M) pc = .ok (.invokespecial idx, 3)) (hlk : Cond.methodLink (zy M).cls idx Lib.objectInit ∈ zTB ∧ Cond.instanceMethod Lib.objectInit ∈ zTB ∧ Cond.code Lib.objectInit ⟨#[0xb1]⟩ 1 none ∈ zTB) (hR : 1 ≤ (zm M).frames) (hl2 : (st.map fun v => v.category).sum + 12 ≤ (zm M).locals) (kk : zV M X sk S L cn (pc + 3) lv st post) : zV M X sk S L cn pc lv (.ref b :: st) post := by
  intro p l e s m args below meth c H locs A ad ad0 n0 D cs ls hX hn hP hD hS hl
  have hts := hX.1.2.2.2.2.2.1
  exact W.objInit hX.1.1 hX.1.2.1 hX.1.2.2.2.2.1 (hts _ hlk.1) (hts _ hlk.2.1) (hts _ hlk.2.2) rfl (by rw [hX.1.2.2.2.1]; exact hl.1) rfl d hR (by rw [zv_cats]; show 2 * 0 + _ + 12 ≤ _; omega) (kk p l e s m args below meth c H locs A ad ad0 n0 D cs ls hX hn hP hD hS hl)
theorem zi_mmax {idx : Nat} {x y : Int32} (d : decode (zb M) pc = .ok (.invokestatic idx, 3)) (hlk : Cond.methodLink (zy M).cls idx Lib.Math.max.name ∈ zTB ∧ Cond.static Lib.Math.max.name ∈ zTB ∧ Cond.initialized "java/lang/Math" ∈ zTB ∧ Cond.code Lib.Math.max.name Lib.Math.max.code 2 (some .int) ∈ zTB) (hR : 1 ≤ (zm M).frames ∧ cn.1 ≤ (zm M).cells ∧ cn.2 ≤ (zm M).slots) (hl2 : (st.map fun v => v.category).sum + 13 ≤ (zm M).locals) (kk : zV M X sk S L cn (pc + 3) lv (.int (if x < y then y else x) :: st) post) : zV M X sk S L cn pc lv (.int y :: .int x :: st) post := by
  intro p l e s m args below meth c H locs A ad ad0 n0 D cs ls hX hn hP hD hS hl
  have hts := hX.1.2.2.2.2.2.1
  exact va_mmax hX.1.1 hX.1.2.1 (by rw [hX.1.2.2.2.1]; exact hl.1.symm) hX.1.2.2.2.2.1 (hts _ hlk.1) (hts _ hlk.2.1) (hts _ hlk.2.2.1) (hts _ hlk.2.2.2) hR.1 (by rw [zv_cats]; exact hl2) hR.2.1 hR.2.2 d (kk p l e s m args below meth c H locs A ad ad0 n0 D cs ls hX hn hP hD hS hl)
theorem zi_mmin {idx : Nat} {x y : Int32} (d : decode (zb M) pc = .ok (.invokestatic idx, 3)) (hlk : Cond.methodLink (zy M).cls idx Lib.Math.min.name ∈ zTB ∧ Cond.static Lib.Math.min.name ∈ zTB ∧ Cond.initialized "java/lang/Math" ∈ zTB ∧ Cond.code Lib.Math.min.name Lib.Math.min.code 2 (some .int) ∈ zTB) (hR : 1 ≤ (zm M).frames ∧ cn.1 ≤ (zm M).cells ∧ cn.2 ≤ (zm M).slots) (hl2 : (st.map fun v => v.category).sum + 13 ≤ (zm M).locals) (kk : zV M X sk S L cn (pc + 3) lv (.int (if y < x then y else x) :: st) post) : zV M X sk S L cn pc lv (.int y :: .int x :: st) post := by
  intro p l e s m args below meth c H locs A ad ad0 n0 D cs ls hX hn hP hD hS hl
  have hts := hX.1.2.2.2.2.2.1
  exact va_mmin hX.1.1 hX.1.2.1 (by rw [hX.1.2.2.2.1]; exact hl.1.symm) hX.1.2.2.2.2.1 (hts _ hlk.1) (hts _ hlk.2.1) (hts _ hlk.2.2.1) (hts _ hlk.2.2.2) hR.1 (by rw [zv_cats]; exact hl2) hR.2.1 hR.2.2 d (kk p l e s m args below meth c H locs A ad ad0 n0 D cs ls hX hn hP hD hS hl)
/-- System.arraycopy between arrays of ints -/
theorem zi_copyi {idx a b n1 n2 : Nat} {sp dp n : Int32} (d : decode (zb M) pc = .ok (.invokestatic idx, 3)) (hlk : Cond.methodLink (zy M).cls idx arraycopyName ∈ zTB ∧ Cond.native arraycopyName ∈ zTB ∧ Cond.static arraycopyName ∈ zTB ∧ Cond.initialized "java/lang/System" ∈ zTB) (hR : 1 ≤ (zm M).frames) (hl2 : (st.map fun v => v.category).sum + 18 ≤ (zm M).locals) (ha : sk[a]? = some (.inl (0, n1))) (hb : sk[b]? = some (.inl (0, n2)))
    (h : (¬ sp < 0 ∧ ¬ dp < 0 ∧ ¬ n < 0) ∧ sp.toNatClampNeg + n.toNatClampNeg ≤ n1 ∧ dp.toNatClampNeg + n.toNatClampNeg ≤ n2) (kk : zV M X sk (zc S b (va_cpy (S a) (S b) sp.toNatClampNeg dp.toNatClampNeg n.toNatClampNeg)) L cn (pc + 3) lv st post) : zV M X sk S L cn pc lv (.int n :: .int dp :: .ref b :: .int sp :: .ref a :: st) post := by
  intro p l e s m args below meth c H locs A ad ad0 n0 D cs ls hX hn hP hD hS hl
  have hts := hX.1.2.2.2.2.2.1
  refine va_copyi (f := S a) (g := S b) (ty := .int) hX.1.1 hX.1.2.1 (by rw [hX.1.2.2.2.1]; exact hl.1.symm) hX.1.2.2.2.2.1 (hts _ hlk.1) (hts _ hlk.2.1) (hts _ hlk.2.2.1) (hts _ hlk.2.2.2) hX.2.1.1 hP hD hS a b 0 0 (zw_get ha) (zw_get hb) rfl rfl rfl h.1.1 h.1.2.1 h.1.2.2 h.2.1 h.2.2 (fun _ _ => rfl) hR (by rw [zv_cats]; exact hl2) d (fun H locs hP hD hS => ?_)
  have e1 : (zw ad cs sk S L).set b (ad b, .inl (cs.1, n2, .inl (va_cpy (S a) (S b) sp.toNatClampNeg dp.toNatClampNeg n.toNatClampNeg))) = zw ad cs sk (zc S b (va_cpy (S a) (S b) sp.toNatClampNeg dp.toNatClampNeg n.toNatClampNeg)) L := by
    rw [← zw_set1 (S' := zc S b (va_cpy (S a) (S b) sp.toNatClampNeg dp.toNatClampNeg n.toNatClampNeg)) (L' := L) hb (fun i hi => zc_ne _ _ hi) (fun _ _ => rfl)]
    simp only [ze, zc_eq]
  rw [e1] at hP hD
  exact kk p l e s m args below meth c H locs A ad ad0 n0 D cs ls hX hn hP hD hS hl
/-! texts -/
theorem zi_tval {idx i : Nat} (hi : i < zSn) (d : decode (zb M) pc = .ok (.getfield idx, 3)) (hlk : Cond.fieldLink (zy M).cls idx "java/lang/String" "value" "[B" ∈ zTB) (kk : zV M X sk S L cn (pc + 3) lv (.ref (1100 + i) :: st) post) : zV M X sk S L cn pc lv (.ref (1000 + i) :: st) post := by
  intro p l e s m args below meth c H locs A ad ad0 n0 D cs ls hX hn hP hD hS hl
  have hts := hX.1.2.2.2.2.2.1
  exact vk_getf hX.1.1 hX.1.2.1 (hX.2.2.1.1.1 i hi).2.2.1 hS hX.1.2.2.2.2.1 (hts _ hlk) (fun _ h => h) d (kk p l e s m args below meth c H locs A ad ad0 n0 D cs ls hX hn hP hD hS hl)
theorem zi_tcod {idx i : Nat} (hi : i < zSn) (d : decode (zb M) pc = .ok (.getfield idx, 3)) (hlk : Cond.fieldLink (zy M).cls idx "java/lang/String" "coder" "B" ∈ zTB) (kk : zV M X sk S L cn (pc + 3) lv (.int 0 :: st) post) : zV M X sk S L cn pc lv (.ref (1000 + i) :: st) post := by
  intro p l e s m args below meth c H locs A ad ad0 n0 D cs ls hX hn hP hD hS hl
  have hts := hX.1.2.2.2.2.2.1
  exact vk_getf hX.1.1 hX.1.2.1 (hX.2.2.1.1.1 i hi).2.1 hS hX.1.2.2.2.2.1 (hts _ hlk) (fun _ h => h) d (kk p l e s m args below meth c H locs A ad ad0 n0 D cs ls hX hn hP hD hS hl)
theorem zi_tcmp {idx : Nat} (d : decode (zb M) pc = .ok (.getstatic idx, 3)) (hlk : Cond.fieldLink (zy M).cls idx "java/lang/String" "COMPACT_STRINGS" "Z" ∈ zTB) (kk : zV M X sk S L cn (pc + 3) lv (.int 1 :: st) post) : zV M X sk S L cn pc lv st post := by
  intro p l e s m args below meth c H locs A ad ad0 n0 D cs ls hX hn hP hD hS hl
  have hts := hX.1.2.2.2.2.2.1
  exact va_gets hX.1.1 hX.1.2.1 hX.2.2.1.2.2.1 hS hX.1.2.2.2.2.1 (hts _ hlk) (fun _ h => h) d (kk p l e s m args below meth c H locs A ad ad0 n0 D cs ls hX hn hP hD hS hl)
theorem zi_tlen {i : Nat} {v : Int32} (hi : i < zSn) (hv : Int32.ofNat (zSl.getD i 0) = v) (d : decode (zb M) pc = .ok (.arraylength, 1)) (kk : zV M X sk S L cn (pc + 1) lv (.int v :: st) post) : zV M X sk S L cn pc lv (.ref (1100 + i) :: st) post := by
  intro p l e s m args below meth c H locs A ad ad0 n0 D cs ls hX hn hP hD hS hl
  exact va_tlen hX.1.1 hX.1.2.1 (hX.2.2.1.1.1 i hi).2.2.2 hS hv d (kk p l e s m args below meth c H locs A ad ad0 n0 D cs ls hX hn hP hD hS hl)
theorem zi_tald {i : Nat} {j : Int32} (hi : i < zSn) (hj : vp_in j (zSl.getD i 0)) (d : decode (zb M) pc = .ok (.baload, 1)) (kk : zV M X sk S L cn (pc + 1) lv (.int ((zSb.getD i []).getD j.toNatClampNeg 0) :: st) post) : zV M X sk S L cn pc lv (.int j :: .ref (1100 + i) :: st) post := by
  intro p l e s m args below meth c H locs A ad ad0 n0 D cs ls hX hn hP hD hS hl
  exact va_tb hX.1.1 hX.1.2.1 (hX.2.2.1.1.1 i hi).2.2.2 hS hj rfl d (kk p l e s m args below meth c H locs A ad ad0 n0 D cs ls hX hn hP hD hS hl)
/-! the script -/
theorem zi_sld {i : Int32} (hm : (zy M).name = "law") (hi : vp_in i X.1) (d : decode (zb M) pc = .ok (.iaload, 1)) (kk : zV M X sk S L cn (pc + 1) lv (.int (X.2 i.toNatClampNeg) :: st) post) : zV M X sk S L cn pc lv (.int i :: .ref 999 :: st) post := by
  intro p l e s m args below meth c H locs A ad ad0 n0 D cs ls hX hn hP hD hS hl
  obtain ⟨q1, q2, q3⟩ := hX.2.2.2 hm
  exact va_sld hX.1.1 hX.1.2.1 q1 q2 q3 hS hi d (kk p l e s m args below meth c H locs A ad ad0 n0 D cs ls hX hn hP hD hS hl)
theorem zi_slen (hm : (zy M).name = "law") (d : decode (zb M) pc = .ok (.arraylength, 1)) (kk : zV M X sk S L cn (pc + 1) lv (.int (Int32.ofNat X.1) :: st) post) : zV M X sk S L cn pc lv (.ref 999 :: st) post := by
  intro p l e s m args below meth c H locs A ad ad0 n0 D cs ls hX hn hP hD hS hl
  obtain ⟨q1, q2, q3⟩ := hX.2.2.2 hm
  exact va_slen hX.1.1 hX.1.2.1 q1 q2 q3 hS d (kk p l e s m args below meth c H locs A ad ad0 n0 D cs ls hX hn hP hD hS hl)
end ZN
end
section
/-! THE WHOLE SYSTEM's SHAPE, behind both constructors; judgements for methods that make nothing -/
def SK : List zK := [
  .inr (10, [some (some 1), some (some 3), some (some 5), some (some 26), some (some 30), some (some 56), some (some 59), some (some 65), some (some 68), none]),
  .inr (7, [some (some 2), some (some 1000), some (some 1001), some (some 1002), none]),
  .inl (0, 31),
  .inr (7, [some (some 4), some (some 1003), some (some 1004), some (some 1005), none]),
  .inl (0, 39),
  .inr (8, [some (some 6), some (some 10), some (some 14), some (some 18), some (some 22), none, none]),
  .inr (5, [some (some 7), some (some 8), some (some 9), none]),
  .inl (0, 8),
  .inl (0, 8),
  .inl (0, 8),
  .inr (5, [some (some 11), some (some 12), some (some 13), none]),
  .inl (0, 10),
  .inl (0, 10),
  .inl (0, 10),
  .inr (5, [some (some 15), some (some 16), some (some 17), none]),
  .inl (0, 9),
  .inl (0, 9),
  .inl (0, 9),
  .inr (5, [some (some 19), some (some 20), some (some 21), none]),
  .inl (0, 8),
  .inl (0, 8),
  .inl (0, 8),
  .inr (5, [some (some 23), some (some 24), some (some 25), none]),
  .inl (0, 8),
  .inl (0, 8),
  .inl (0, 8),
  .inr (2, [some (some 5), some (some 27), some (some 28), some (some 29), none, none]),
  .inl (0, 41),
  .inl (0, 984),
  .inl (0, 8),
  .inr (3, [some (some 5), some (some 31), some (some 52)]),
  .inr (8, [some (some 32), some (some 36), some (some 40), some (some 44), some (some 48), none, none]),
  .inr (5, [some (some 33), some (some 34), some (some 35), none]),
  .inl (0, 8),
  .inl (0, 8),
  .inl (0, 8),
  .inr (5, [some (some 37), some (some 38), some (some 39), none]),
  .inl (0, 10),
  .inl (0, 10),
  .inl (0, 10),
  .inr (5, [some (some 41), some (some 42), some (some 43), none]),
  .inl (0, 9),
  .inl (0, 9),
  .inl (0, 9),
  .inr (5, [some (some 45), some (some 46), some (some 47), none]),
  .inl (0, 8),
  .inl (0, 8),
  .inl (0, 8),
  .inr (5, [some (some 49), some (some 50), some (some 51), none]),
  .inl (0, 8),
  .inl (0, 8),
  .inl (0, 8),
  .inr (2, [some (some 31), some (some 53), some (some 54), some (some 55), none, none]),
  .inl (0, 41),
  .inl (0, 984),
  .inl (0, 8),
  .inr (4, [some (some 30), some (some 57), some (some 58), none, none, none, none, none, none, none, none]),
  .inr (1, [none, none]),
  .inl (0, 448),
  .inr (9, [some (some 60), none, some (some 30), some (some 64), none]),
  .inr (5, [some (some 61), some (some 62), some (some 63), none]),
  .inl (0, 8),
  .inl (0, 8),
  .inl (0, 8),
  .inl (0, 1920),
  .inr (0, [some (some 30), some (some 66), some (some 67), none, none, none]),
  .inl (1, 8),
  .inl (1, 8),
  .inr (6, [some (some 69), some (some 70), some (some 71), none]),
  .inl (0, 4),
  .inl (0, 4),
  .inl (0, 240),
  .inr (11, [some (some 73), some (some 74), none, some (some 75), some (some 76), some (some 77), none, some (some 78), some (some 79), some (some 80), none, none, none, some (some 81), some (some 82), some (some 83), none, some (some 84), some (some 85), some (some 86), none, some (some 87), none, none, none, some (some 88), some (some 89), some (some 90), some (some 91), some (some 92), none, none, none, none, some (some 93), some (some 94), some (some 95), some (some 96), some (some 97), some (some 98), some (some 99), some (some 100), some (some 101), some (some 102), some (some 103), none, some (some 104), some (some 105), some (some 106), some (some 107), some (some 108), some (some 109), some (some 110), some (some 111), some (some 112), none]),
  .inl (0, 2),
  .inl (0, 78),
  .inl (0, 9),
  .inl (0, 9),
  .inl (0, 9),
  .inl (0, 11),
  .inl (0, 11),
  .inl (0, 11),
  .inl (0, 9),
  .inl (0, 9),
  .inl (0, 9),
  .inl (0, 8),
  .inl (0, 8),
  .inl (0, 8),
  .inl (0, 6),
  .inl (0, 8),
  .inl (0, 8),
  .inl (0, 8),
  .inl (0, 8),
  .inl (0, 8),
  .inl (0, 4),
  .inl (0, 4),
  .inl (0, 192),
  .inl (0, 192),
  .inl (0, 192),
  .inl (0, 24),
  .inl (0, 24),
  .inl (0, 96),
  .inl (0, 96),
  .inl (0, 2),
  .inl (0, 2),
  .inl (0, 8),
  .inl (0, 8),
  .inl (0, 8),
  .inl (0, 240),
  .inl (2, 4),
  .inl (0, 4),
  .inl (0, 4),
  .inl (0, 240),
  .inl (0, 60)]
theorem SK_len : SK.length = 113 := rfl
theorem sk0 : SK[0]? = some (.inr (10, [some (some 1), some (some 3), some (some 5), some (some 26), some (some 30), some (some 56), some (some 59), some (some 65), some (some 68), none])) := rfl
theorem sk1 : SK[1]? = some (.inr (7, [some (some 2), some (some 1000), some (some 1001), some (some 1002), none])) := rfl
theorem sk2 : SK[2]? = some (.inl (0, 31)) := rfl
theorem sk3 : SK[3]? = some (.inr (7, [some (some 4), some (some 1003), some (some 1004), some (some 1005), none])) := rfl
theorem sk4 : SK[4]? = some (.inl (0, 39)) := rfl
theorem sk5 : SK[5]? = some (.inr (8, [some (some 6), some (some 10), some (some 14), some (some 18), some (some 22), none, none])) := rfl
theorem sk6 : SK[6]? = some (.inr (5, [some (some 7), some (some 8), some (some 9), none])) := rfl
theorem sk7 : SK[7]? = some (.inl (0, 8)) := rfl
theorem sk8 : SK[8]? = some (.inl (0, 8)) := rfl
theorem sk9 : SK[9]? = some (.inl (0, 8)) := rfl
theorem sk10 : SK[10]? = some (.inr (5, [some (some 11), some (some 12), some (some 13), none])) := rfl
theorem sk11 : SK[11]? = some (.inl (0, 10)) := rfl
theorem sk12 : SK[12]? = some (.inl (0, 10)) := rfl
theorem sk13 : SK[13]? = some (.inl (0, 10)) := rfl
theorem sk14 : SK[14]? = some (.inr (5, [some (some 15), some (some 16), some (some 17), none])) := rfl
theorem sk15 : SK[15]? = some (.inl (0, 9)) := rfl
theorem sk16 : SK[16]? = some (.inl (0, 9)) := rfl
theorem sk17 : SK[17]? = some (.inl (0, 9)) := rfl
theorem sk18 : SK[18]? = some (.inr (5, [some (some 19), some (some 20), some (some 21), none])) := rfl
theorem sk19 : SK[19]? = some (.inl (0, 8)) := rfl
theorem sk20 : SK[20]? = some (.inl (0, 8)) := rfl
theorem sk21 : SK[21]? = some (.inl (0, 8)) := rfl
theorem sk22 : SK[22]? = some (.inr (5, [some (some 23), some (some 24), some (some 25), none])) := rfl
theorem sk23 : SK[23]? = some (.inl (0, 8)) := rfl
theorem sk24 : SK[24]? = some (.inl (0, 8)) := rfl
theorem sk25 : SK[25]? = some (.inl (0, 8)) := rfl
theorem sk26 : SK[26]? = some (.inr (2, [some (some 5), some (some 27), some (some 28), some (some 29), none, none])) := rfl
theorem sk27 : SK[27]? = some (.inl (0, 41)) := rfl
theorem sk28 : SK[28]? = some (.inl (0, 984)) := rfl
theorem sk29 : SK[29]? = some (.inl (0, 8)) := rfl
theorem sk30 : SK[30]? = some (.inr (3, [some (some 5), some (some 31), some (some 52)])) := rfl
theorem sk31 : SK[31]? = some (.inr (8, [some (some 32), some (some 36), some (some 40), some (some 44), some (some 48), none, none])) := rfl
theorem sk32 : SK[32]? = some (.inr (5, [some (some 33), some (some 34), some (some 35), none])) := rfl
theorem sk33 : SK[33]? = some (.inl (0, 8)) := rfl
theorem sk34 : SK[34]? = some (.inl (0, 8)) := rfl
theorem sk35 : SK[35]? = some (.inl (0, 8)) := rfl
theorem sk36 : SK[36]? = some (.inr (5, [some (some 37), some (some 38), some (some 39), none])) := rfl
theorem sk37 : SK[37]? = some (.inl (0, 10)) := rfl
theorem sk38 : SK[38]? = some (.inl (0, 10)) := rfl
theorem sk39 : SK[39]? = some (.inl (0, 10)) := rfl
theorem sk40 : SK[40]? = some (.inr (5, [some (some 41), some (some 42), some (some 43), none])) := rfl
theorem sk41 : SK[41]? = some (.inl (0, 9)) := rfl
theorem sk42 : SK[42]? = some (.inl (0, 9)) := rfl
theorem sk43 : SK[43]? = some (.inl (0, 9)) := rfl
theorem sk44 : SK[44]? = some (.inr (5, [some (some 45), some (some 46), some (some 47), none])) := rfl
theorem sk45 : SK[45]? = some (.inl (0, 8)) := rfl
theorem sk46 : SK[46]? = some (.inl (0, 8)) := rfl
theorem sk47 : SK[47]? = some (.inl (0, 8)) := rfl
theorem sk48 : SK[48]? = some (.inr (5, [some (some 49), some (some 50), some (some 51), none])) := rfl
theorem sk49 : SK[49]? = some (.inl (0, 8)) := rfl
theorem sk50 : SK[50]? = some (.inl (0, 8)) := rfl
theorem sk51 : SK[51]? = some (.inl (0, 8)) := rfl
theorem sk52 : SK[52]? = some (.inr (2, [some (some 31), some (some 53), some (some 54), some (some 55), none, none])) := rfl
theorem sk53 : SK[53]? = some (.inl (0, 41)) := rfl
theorem sk54 : SK[54]? = some (.inl (0, 984)) := rfl
theorem sk55 : SK[55]? = some (.inl (0, 8)) := rfl
theorem sk56 : SK[56]? = some (.inr (4, [some (some 30), some (some 57), some (some 58), none, none, none, none, none, none, none, none])) := rfl
theorem sk57 : SK[57]? = some (.inr (1, [none, none])) := rfl
theorem sk58 : SK[58]? = some (.inl (0, 448)) := rfl
theorem sk59 : SK[59]? = some (.inr (9, [some (some 60), none, some (some 30), some (some 64), none])) := rfl
theorem sk60 : SK[60]? = some (.inr (5, [some (some 61), some (some 62), some (some 63), none])) := rfl
theorem sk61 : SK[61]? = some (.inl (0, 8)) := rfl
theorem sk62 : SK[62]? = some (.inl (0, 8)) := rfl
theorem sk63 : SK[63]? = some (.inl (0, 8)) := rfl
theorem sk64 : SK[64]? = some (.inl (0, 1920)) := rfl
theorem sk65 : SK[65]? = some (.inr (0, [some (some 30), some (some 66), some (some 67), none, none, none])) := rfl
theorem sk66 : SK[66]? = some (.inl (1, 8)) := rfl
theorem sk67 : SK[67]? = some (.inl (1, 8)) := rfl
theorem sk68 : SK[68]? = some (.inr (6, [some (some 69), some (some 70), some (some 71), none])) := rfl
theorem sk69 : SK[69]? = some (.inl (0, 4)) := rfl
theorem sk70 : SK[70]? = some (.inl (0, 4)) := rfl
theorem sk71 : SK[71]? = some (.inl (0, 240)) := rfl
theorem sk72 : SK[72]? = some (.inr (11, [some (some 73), some (some 74), none, some (some 75), some (some 76), some (some 77), none, some (some 78), some (some 79), some (some 80), none, none, none, some (some 81), some (some 82), some (some 83), none, some (some 84), some (some 85), some (some 86), none, some (some 87), none, none, none, some (some 88), some (some 89), some (some 90), some (some 91), some (some 92), none, none, none, none, some (some 93), some (some 94), some (some 95), some (some 96), some (some 97), some (some 98), some (some 99), some (some 100), some (some 101), some (some 102), some (some 103), none, some (some 104), some (some 105), some (some 106), some (some 107), some (some 108), some (some 109), some (some 110), some (some 111), some (some 112), none])) := rfl
theorem sk73 : SK[73]? = some (.inl (0, 2)) := rfl
theorem sk74 : SK[74]? = some (.inl (0, 78)) := rfl
theorem sk75 : SK[75]? = some (.inl (0, 9)) := rfl
theorem sk76 : SK[76]? = some (.inl (0, 9)) := rfl
theorem sk77 : SK[77]? = some (.inl (0, 9)) := rfl
theorem sk78 : SK[78]? = some (.inl (0, 11)) := rfl
theorem sk79 : SK[79]? = some (.inl (0, 11)) := rfl
theorem sk80 : SK[80]? = some (.inl (0, 11)) := rfl
theorem sk81 : SK[81]? = some (.inl (0, 9)) := rfl
theorem sk82 : SK[82]? = some (.inl (0, 9)) := rfl
theorem sk83 : SK[83]? = some (.inl (0, 9)) := rfl
theorem sk84 : SK[84]? = some (.inl (0, 8)) := rfl
theorem sk85 : SK[85]? = some (.inl (0, 8)) := rfl
theorem sk86 : SK[86]? = some (.inl (0, 8)) := rfl
theorem sk87 : SK[87]? = some (.inl (0, 6)) := rfl
theorem sk88 : SK[88]? = some (.inl (0, 8)) := rfl
theorem sk89 : SK[89]? = some (.inl (0, 8)) := rfl
theorem sk90 : SK[90]? = some (.inl (0, 8)) := rfl
theorem sk91 : SK[91]? = some (.inl (0, 8)) := rfl
theorem sk92 : SK[92]? = some (.inl (0, 8)) := rfl
theorem sk93 : SK[93]? = some (.inl (0, 4)) := rfl
theorem sk94 : SK[94]? = some (.inl (0, 4)) := rfl
theorem sk95 : SK[95]? = some (.inl (0, 192)) := rfl
theorem sk96 : SK[96]? = some (.inl (0, 192)) := rfl
theorem sk97 : SK[97]? = some (.inl (0, 192)) := rfl
theorem sk98 : SK[98]? = some (.inl (0, 24)) := rfl
theorem sk99 : SK[99]? = some (.inl (0, 24)) := rfl
theorem sk100 : SK[100]? = some (.inl (0, 96)) := rfl
theorem sk101 : SK[101]? = some (.inl (0, 96)) := rfl
theorem sk102 : SK[102]? = some (.inl (0, 2)) := rfl
theorem sk103 : SK[103]? = some (.inl (0, 2)) := rfl
theorem sk104 : SK[104]? = some (.inl (0, 8)) := rfl
theorem sk105 : SK[105]? = some (.inl (0, 8)) := rfl
theorem sk106 : SK[106]? = some (.inl (0, 8)) := rfl
theorem sk107 : SK[107]? = some (.inl (0, 240)) := rfl
theorem sk108 : SK[108]? = some (.inl (2, 4)) := rfl
theorem sk109 : SK[109]? = some (.inl (0, 4)) := rfl
theorem sk110 : SK[110]? = some (.inl (0, 4)) := rfl
theorem sk111 : SK[111]? = some (.inl (0, 240)) := rfl
theorem sk112 : SK[112]? = some (.inl (0, 60)) := rfl
/-- the ends: an int, a long, a reference, nothing -/
abbrev zpi (P : Int32 → zS → zL → Prop) : zP := fun r sk S L => sk = SK ∧ ∃ y, r = some (.int y) ∧ P y S L
abbrev zpl (P : Int64 → zS → zL → Prop) : zP := fun r sk S L => sk = SK ∧ ∃ y, r = some (.long y) ∧ P y S L
abbrev zpr (P : Nat → zS → zL → Prop) : zP := fun r sk S L => sk = SK ∧ ∃ y, r = some (.ref y) ∧ P y S L
abbrev zpv (P : zS → zL → Prop) : zP := fun r sk S L => sk = SK ∧ r = none ∧ P S L
/-- a judgement inside a method that makes nothing -/
abbrev zU (M : zM) (X : Nat × (Nat → Int32)) (S : zS) (L : zL) (pc : Nat) (lv : List (Option Value)) (st : List Value) (post : zP) : Prop := zV M X SK S L (0, 0) pc lv st post
def zCi (M : zM) (S : zS) (L : zL) (av : List Value) (P : Int32 → zS → zL → Prop) : Prop := zCall M SK S L av (zpi P)
def zCl (M : zM) (S : zS) (L : zL) (av : List Value) (P : Int64 → zS → zL → Prop) : Prop := zCall M SK S L av (zpl P)
def zCr (M : zM) (S : zS) (L : zL) (av : List Value) (P : Nat → zS → zL → Prop) : Prop := zCall M SK S L av (zpr P)
def zCv (M : zM) (S : zS) (L : zL) (av : List Value) (P : zS → zL → Prop) : Prop := zCall M SK S L av (zpv P)
theorem Met.mono {l : Launch} {y : MethodName} {ws : List Cond} {rm : Room} {Pc : Array Value → State → Prop} {Qc Qc' : Array Value → State → Outcome → State → Prop} {mc ms : Nat} {free : Addr → Prop} (h : Met l y ws rm Pc Qc mc ms free) (hq : ∀ a s o t, Qc a s o t → Qc' a s o t) : Met l y ws rm Pc Qc' mc ms free := by
  intro p e ha hc hk s m args below hf hfit hheap happ
  obtain ⟨k, o, h1, h2, h3, h4, h5⟩ := h p e ha hc hk s m args below hf hfit hheap happ
  exact ⟨k, o, h1, h2, h3, hq _ _ _ _ h4, h5⟩
theorem zCall_mono {M : zM} {sk : List zK} {S : zS} {L : zL} {av : List Value} {post post' : zP} (h : zCall M sk S L av post) (hp : ∀ r sk' S' L', post r sk' S' L' → post' r sk' S' L') : zCall M sk S L av post' := by
  intro l ad D cs sz
  refine Met.mono (h l ad D cs sz) ?_
  rintro a s o t ⟨⟨r, sk', S', L', ad', q1, q2, q3⟩, q4⟩
  exact ⟨⟨r, sk', S', L', ad', q1, hp _ _ _ _ q2, q3⟩, q4⟩
theorem zCi_mono {M : zM} {S : zS} {L : zL} {av : List Value} {P P' : Int32 → zS → zL → Prop} (h : zCi M S L av P) (hp : ∀ y S' L', P y S' L' → P' y S' L') : zCi M S L av P' := zCall_mono h (fun _ _ _ _ ⟨a, y, b, c⟩ => ⟨a, y, b, hp _ _ _ c⟩)
theorem zCl_mono {M : zM} {S : zS} {L : zL} {av : List Value} {P P' : Int64 → zS → zL → Prop} (h : zCl M S L av P) (hp : ∀ y S' L', P y S' L' → P' y S' L') : zCl M S L av P' := zCall_mono h (fun _ _ _ _ ⟨a, y, b, c⟩ => ⟨a, y, b, hp _ _ _ c⟩)
theorem zCr_mono {M : zM} {S : zS} {L : zL} {av : List Value} {P P' : Nat → zS → zL → Prop} (h : zCr M S L av P) (hp : ∀ y S' L', P y S' L' → P' y S' L') : zCr M S L av P' := zCall_mono h (fun _ _ _ _ ⟨a, y, b, c⟩ => ⟨a, y, b, hp _ _ _ c⟩)
theorem zCv_mono {M : zM} {S : zS} {L : zL} {av : List Value} {P P' : zS → zL → Prop} (h : zCv M S L av P) (hp : ∀ S' L', P S' L' → P' S' L') : zCv M S L av P' := zCall_mono h (fun _ _ _ _ ⟨a, b, c⟩ => ⟨a, b, hp _ _ c⟩)
/-- a plain method: no constructor, no law -/
def zpn (M : zM) : Prop := plainName (zy M).cls = true ∧ (zy M).name ≠ "law"
theorem zCi_of {M : zM} {S : zS} {L : zL} {av : List Value} {P : Int32 → zS → zL → Prop} (hM : zpn M) (hz : (lg_sl av).length ≤ zn M) (h : ∀ X, zU M X S L 0 (zen av) [] (zpi P)) : zCi M S L av P := zV_entry hM.1 hM.2 hz h
theorem zCl_of {M : zM} {S : zS} {L : zL} {av : List Value} {P : Int64 → zS → zL → Prop} (hM : zpn M) (hz : (lg_sl av).length ≤ zn M) (h : ∀ X, zU M X S L 0 (zen av) [] (zpl P)) : zCl M S L av P := zV_entry hM.1 hM.2 hz h
theorem zCr_of {M : zM} {S : zS} {L : zL} {av : List Value} {P : Nat → zS → zL → Prop} (hM : zpn M) (hz : (lg_sl av).length ≤ zn M) (h : ∀ X, zU M X S L 0 (zen av) [] (zpr P)) : zCr M S L av P := zV_entry hM.1 hM.2 hz h
theorem zCv_of {M : zM} {S : zS} {L : zL} {av : List Value} {P : zS → zL → Prop} (hM : zpn M) (hz : (lg_sl av).length ≤ zn M) (h : ∀ X, zU M X S L 0 (zen av) [] (zpv P)) : zCv M S L av P := zV_entry hM.1 hM.2 hz h
section ZT
variable {M N : zM} {X : Nat × (Nat → Int32)} {S : zS} {L : zL} {pc : Nat} {lv lv' : List (Option Value)} {st : List Value} {post : zP} {idx n b : Nat} {As : List Value}
theorem zt_iret {x : Int32} {P : Int32 → zS → zL → Prop} (d : decode (zb M) pc = .ok (.ireturn, 1)) (hr : zr M = some .int) (h : P x S L) : zU M X S L pc lv [.int x] (zpi P) := zv_iret d hr ⟨Nat.zero_le _, Nat.zero_le _⟩ ⟨rfl, x, rfl, h⟩
theorem zt_zret {x : Int32} {ty : FieldType} {P : Int32 → zS → zL → Prop} (d : decode (zb M) pc = .ok (.ireturn, 1)) (hr : zr M = some ty) (hnr : narrow ty (.int x) = .int x) (h : P x S L) : zU M X S L pc lv [.int x] (zpi P) := zv_zret d hr hnr ⟨Nat.zero_le _, Nat.zero_le _⟩ ⟨rfl, x, rfl, h⟩
theorem zt_lret {x : Int64} {P : Int64 → zS → zL → Prop} (d : decode (zb M) pc = .ok (.lreturn, 1)) (hr : zr M = some .long) (h : P x S L) : zU M X S L pc lv [.long x] (zpl P) := zv_lret d hr ⟨Nat.zero_le _, Nat.zero_le _⟩ ⟨rfl, x, rfl, h⟩
theorem zt_aret {x : Nat} {o : String} {P : Nat → zS → zL → Prop} (d : decode (zb M) pc = .ok (.areturn, 1)) (hr : zr M = some (.object o)) (h : P x S L) : zU M X S L pc lv [.ref x] (zpr P) := zv_aret d hr ⟨Nat.zero_le _, Nat.zero_le _⟩ ⟨rfl, x, rfl, h⟩
theorem zt_vret {P : zS → zL → Prop} (d : decode (zb M) pc = .ok (.return_, 1)) (hr : zr M = none) (h : P S L) : zU M X S L pc lv [] (zpv P) := zv_vret d hr ⟨Nat.zero_le _, Nat.zero_le _⟩ ⟨rfl, rfl, h⟩
/-- forget locals -/
def zmsk : List Bool → List (Option Value) → List (Option Value)
  | b :: bs, v :: vs => (if b = true then v else none) :: zmsk bs vs
  | _, _ => []
theorem zmsk_in : ∀ (bs : List Bool) (vs : List (Option Value)) (i : Nat) (v : Value), (zmsk bs vs)[i]? = some (some v) → vs[i]? = some (some v)
  | [], _, i, v, h => by simp [zmsk] at h
  | _ :: _, [], i, v, h => by simp [zmsk] at h
  | b :: bs, w :: vs, 0, v, h => by
    cases b
    · simp [zmsk] at h
    · simpa [zmsk] using h
  | b :: bs, w :: vs, i + 1, v, h => by
    have h2 : (zmsk bs vs)[i]? = some (some v) := by simpa [zmsk] using h
    simpa using zmsk_in bs vs i v h2
theorem zt_drop (bs : List Bool) (h : zmsk bs lv = lv') (k : zU M X S L pc lv' st post) : zU M X S L pc lv st post := zV_drop (fun i v hv => zmsk_in bs lv i v (by rw [h]; exact hv)) k
theorem zt_nmi {x : Int32} (k : ∀ y : Int32, y = x → zU M X S L pc lv (.int y :: st) post) : zU M X S L pc lv (.int x :: st) post := k x rfl
theorem zt_nml {x : Int64} (k : ∀ y : Int64, y = x → zU M X S L pc lv (.long y :: st) post) : zU M X S L pc lv (.long x :: st) post := k x rfl
theorem zt_nmS (k : ∀ S1 : zS, S1 = S → zU M X S1 L pc lv st post) : zU M X S L pc lv st post := k S rfl
theorem zt_nmL (k : ∀ L1 : zL, L1 = L → zU M X S L1 pc lv st post) : zU M X S L pc lv st post := k L rfl
/-- a value by cases -/
theorem zt_ifi {c : Prop} [Decidable c] {x y : Int32} (k : zU M X S L pc lv (.int (if c then x else y) :: st) post) : (c → zU M X S L pc lv (.int x :: st) post) ∧ (¬ c → zU M X S L pc lv (.int y :: st) post) := ⟨fun h => by rw [if_pos h] at k; exact k, fun h => by rw [if_neg h] at k; exact k⟩
/-- a callee that makes nothing -/
abbrev zrz (M N : zM) : Prop := zrm M N ∧ (zm N).cells = 0 ∧ (zm N).slots = 0
abbrev zsk (lv : List (Option Value)) (st : List Value) : Prop := (st.map fun v => v.category).sum ≤ 8 ∧ zokL 113 lv = true ∧ st.all (zok 113) = true
theorem zt_Vi {P : Int32 → zS → zL → Prop} {ci : Nat} {fl : List (Option (Option Nat))} (d : decode (zb M) pc = .ok (.invokevirtual idx, 3)) (hlk : zlV (zy M).cls idx N n) (hb : SK[b]? = some (.inr (ci, fl))) (hci : (vwCl[ci]?).map (fun q => q.1) = some (zy N).cls) (hR : zrz M N) (hn9 : As.length = n) (hk : zsk lv st) (hc : zCi N S L (.ref b :: As) P) (kk : ∀ (y : Int32) (S1 : zS) (L1 : zL), P y S1 L1 → zU M X S1 L1 (pc + 3) lv (.int y :: st) post) : zU M X S L pc lv (As.reverse ++ .ref b :: st) post := by
  refine zi_callV (n9 := 113) d hlk hb hci hR.1 hn9 (by rw [hR.2.1, hR.2.2]; exact ⟨Nat.zero_le _, Nat.zero_le _⟩) hk.1 ⟨Nat.le_of_eq SK_len.symm, hk.2⟩ hc ?_
  intro r sk' S' L' _ hp
  rw [hR.2.1, hR.2.2]
  obtain ⟨rfl, y, rfl, h⟩ := hp
  exact kk y S' L' h
theorem zt_Si {P : Int32 → zS → zL → Prop} (d : decode (zb M) pc = .ok (.invokestatic idx, 3)) (hlk : zlS (zy M).cls idx N n) (hR : zrz M N) (hn9 : As.length = n) (hk : zsk lv st) (hc : zCi N S L As P) (kk : ∀ (y : Int32) (S1 : zS) (L1 : zL), P y S1 L1 → zU M X S1 L1 (pc + 3) lv (.int y :: st) post) : zU M X S L pc lv (As.reverse ++ st) post := by
  refine zi_callS (n9 := 113) d hlk hR.1 hn9 (by rw [hR.2.1, hR.2.2]; exact ⟨Nat.zero_le _, Nat.zero_le _⟩) hk.1 ⟨Nat.le_of_eq SK_len.symm, hk.2⟩ hc ?_
  intro r sk' S' L' _ hp
  rw [hR.2.1, hR.2.2]
  obtain ⟨rfl, y, rfl, h⟩ := hp
  exact kk y S' L' h
theorem zt_Ti {P : Int32 → zS → zL → Prop} {i : Nat} (d : decode (zb M) pc = .ok (.invokevirtual idx, 3)) (hlk : zlV (zy M).cls idx N n) (hi : i < zSn) (hci : (zy N).cls = "java/lang/String") (hR : zrz M N) (hn9 : As.length = n) (hk : zsk lv st) (hc : zCi N S L (.ref (1000 + i) :: As) P) (kk : ∀ (y : Int32) (S1 : zS) (L1 : zL), P y S1 L1 → zU M X S1 L1 (pc + 3) lv (.int y :: st) post) : zU M X S L pc lv (As.reverse ++ .ref (1000 + i) :: st) post := by
  refine zi_callT (n9 := 113) d hlk hi hci hR.1 hn9 (by rw [hR.2.1, hR.2.2]; exact ⟨Nat.zero_le _, Nat.zero_le _⟩) hk.1 ⟨Nat.le_of_eq SK_len.symm, hk.2⟩ hc ?_
  intro r sk' S' L' _ hp
  rw [hR.2.1, hR.2.2]
  obtain ⟨rfl, y, rfl, h⟩ := hp
  exact kk y S' L' h
theorem zt_Vl {P : Int64 → zS → zL → Prop} {ci : Nat} {fl : List (Option (Option Nat))} (d : decode (zb M) pc = .ok (.invokevirtual idx, 3)) (hlk : zlV (zy M).cls idx N n) (hb : SK[b]? = some (.inr (ci, fl))) (hci : (vwCl[ci]?).map (fun q => q.1) = some (zy N).cls) (hR : zrz M N) (hn9 : As.length = n) (hk : zsk lv st) (hc : zCl N S L (.ref b :: As) P) (kk : ∀ (y : Int64) (S1 : zS) (L1 : zL), P y S1 L1 → zU M X S1 L1 (pc + 3) lv (.long y :: st) post) : zU M X S L pc lv (As.reverse ++ .ref b :: st) post := by
  refine zi_callV (n9 := 113) d hlk hb hci hR.1 hn9 (by rw [hR.2.1, hR.2.2]; exact ⟨Nat.zero_le _, Nat.zero_le _⟩) hk.1 ⟨Nat.le_of_eq SK_len.symm, hk.2⟩ hc ?_
  intro r sk' S' L' _ hp
  rw [hR.2.1, hR.2.2]
  obtain ⟨rfl, y, rfl, h⟩ := hp
  exact kk y S' L' h
theorem zt_Sl {P : Int64 → zS → zL → Prop} (d : decode (zb M) pc = .ok (.invokestatic idx, 3)) (hlk : zlS (zy M).cls idx N n) (hR : zrz M N) (hn9 : As.length = n) (hk : zsk lv st) (hc : zCl N S L As P) (kk : ∀ (y : Int64) (S1 : zS) (L1 : zL), P y S1 L1 → zU M X S1 L1 (pc + 3) lv (.long y :: st) post) : zU M X S L pc lv (As.reverse ++ st) post := by
  refine zi_callS (n9 := 113) d hlk hR.1 hn9 (by rw [hR.2.1, hR.2.2]; exact ⟨Nat.zero_le _, Nat.zero_le _⟩) hk.1 ⟨Nat.le_of_eq SK_len.symm, hk.2⟩ hc ?_
  intro r sk' S' L' _ hp
  rw [hR.2.1, hR.2.2]
  obtain ⟨rfl, y, rfl, h⟩ := hp
  exact kk y S' L' h
theorem zt_Vr {P : Nat → zS → zL → Prop} {ci : Nat} {fl : List (Option (Option Nat))} (d : decode (zb M) pc = .ok (.invokevirtual idx, 3)) (hlk : zlV (zy M).cls idx N n) (hb : SK[b]? = some (.inr (ci, fl))) (hci : (vwCl[ci]?).map (fun q => q.1) = some (zy N).cls) (hR : zrz M N) (hn9 : As.length = n) (hk : zsk lv st) (hc : zCr N S L (.ref b :: As) P) (kk : ∀ (y : Nat) (S1 : zS) (L1 : zL), P y S1 L1 → zU M X S1 L1 (pc + 3) lv (.ref y :: st) post) : zU M X S L pc lv (As.reverse ++ .ref b :: st) post := by
  refine zi_callV (n9 := 113) d hlk hb hci hR.1 hn9 (by rw [hR.2.1, hR.2.2]; exact ⟨Nat.zero_le _, Nat.zero_le _⟩) hk.1 ⟨Nat.le_of_eq SK_len.symm, hk.2⟩ hc ?_
  intro r sk' S' L' _ hp
  rw [hR.2.1, hR.2.2]
  obtain ⟨rfl, y, rfl, h⟩ := hp
  exact kk y S' L' h
theorem zt_Sr {P : Nat → zS → zL → Prop} (d : decode (zb M) pc = .ok (.invokestatic idx, 3)) (hlk : zlS (zy M).cls idx N n) (hR : zrz M N) (hn9 : As.length = n) (hk : zsk lv st) (hc : zCr N S L As P) (kk : ∀ (y : Nat) (S1 : zS) (L1 : zL), P y S1 L1 → zU M X S1 L1 (pc + 3) lv (.ref y :: st) post) : zU M X S L pc lv (As.reverse ++ st) post := by
  refine zi_callS (n9 := 113) d hlk hR.1 hn9 (by rw [hR.2.1, hR.2.2]; exact ⟨Nat.zero_le _, Nat.zero_le _⟩) hk.1 ⟨Nat.le_of_eq SK_len.symm, hk.2⟩ hc ?_
  intro r sk' S' L' _ hp
  rw [hR.2.1, hR.2.2]
  obtain ⟨rfl, y, rfl, h⟩ := hp
  exact kk y S' L' h
theorem zt_Vv {P : zS → zL → Prop} {ci : Nat} {fl : List (Option (Option Nat))} (d : decode (zb M) pc = .ok (.invokevirtual idx, 3)) (hlk : zlV (zy M).cls idx N n) (hb : SK[b]? = some (.inr (ci, fl))) (hci : (vwCl[ci]?).map (fun q => q.1) = some (zy N).cls) (hR : zrz M N) (hn9 : As.length = n) (hk : zsk lv st) (hc : zCv N S L (.ref b :: As) P) (kk : ∀ (S1 : zS) (L1 : zL), P S1 L1 → zU M X S1 L1 (pc + 3) lv st post) : zU M X S L pc lv (As.reverse ++ .ref b :: st) post := by
  refine zi_callV (n9 := 113) d hlk hb hci hR.1 hn9 (by rw [hR.2.1, hR.2.2]; exact ⟨Nat.zero_le _, Nat.zero_le _⟩) hk.1 ⟨Nat.le_of_eq SK_len.symm, hk.2⟩ hc ?_
  intro r sk' S' L' _ hp
  rw [hR.2.1, hR.2.2]
  obtain ⟨rfl, rfl, h⟩ := hp
  exact kk S' L' h
theorem zt_Sv {P : zS → zL → Prop} (d : decode (zb M) pc = .ok (.invokestatic idx, 3)) (hlk : zlS (zy M).cls idx N n) (hR : zrz M N) (hn9 : As.length = n) (hk : zsk lv st) (hc : zCv N S L As P) (kk : ∀ (S1 : zS) (L1 : zL), P S1 L1 → zU M X S1 L1 (pc + 3) lv st post) : zU M X S L pc lv (As.reverse ++ st) post := by
  refine zi_callS (n9 := 113) d hlk hR.1 hn9 (by rw [hR.2.1, hR.2.2]; exact ⟨Nat.zero_le _, Nat.zero_le _⟩) hk.1 ⟨Nat.le_of_eq SK_len.symm, hk.2⟩ hc ?_
  intro r sk' S' L' _ hp
  rw [hR.2.1, hR.2.2]
  obtain ⟨rfl, rfl, h⟩ := hp
  exact kk S' L' h
end ZT
end
section
def mX0_init : zM := (yX0_init, cX0_init, 2, none, { frames := 1, cells := 2, slots := 16, locals := 20 })
def mX0_unsettle : zM := (yX0_unsettle, cX0_unsettle, 1, none, { frames := 0, cells := 0, slots := 0, locals := 0 })
def mX0_above : zM := (yX0_above, cX0_above, 2, (some .long), { frames := 0, cells := 0, slots := 0, locals := 0 })
def mX0_below : zM := (yX0_below, cX0_below, 2, (some .long), { frames := 0, cells := 0, slots := 0, locals := 0 })
def mX0_findLiving : zM := (yX0_findLiving, cX0_findLiving, 10, none, { frames := 4, cells := 0, slots := 0, locals := 89 })
def mX0_supposeFrosts : zM := (yX0_supposeFrosts, cX0_supposeFrosts, 4, none, { frames := 1, cells := 0, slots := 0, locals := 23 })
def mX0_addToLiving : zM := (yX0_addToLiving, cX0_addToLiving, 4, none, { frames := 1, cells := 0, slots := 0, locals := 21 })
def mX0_reduce : zM := (yX0_reduce, cX0_reduce, 3, none, { frames := 0, cells := 0, slots := 0, locals := 0 })
def mX0_power : zM := (yX0_power, cX0_power, 5, (some .long), { frames := 0, cells := 0, slots := 0, locals := 0 })
def mX0_runYears : zM := (yX0_runYears, cX0_runYears, 8, none, { frames := 4, cells := 0, slots := 0, locals := 89 })
def mX0_lot : zM := (yX0_lot, cX0_lot, 2, (some .int), { frames := 0, cells := 0, slots := 0, locals := 0 })
def mX1_init : zM := (yX1_init, cX1_init, 1, none, { frames := 1, cells := 0, slots := 0, locals := 20 })
def mX1_begin : zM := (yX1_begin, cX1_begin, 1, none, { frames := 0, cells := 0, slots := 0, locals := 0 })
def mX1_goOn : zM := (yX1_goOn, cX1_goOn, 2, (some .boolean), { frames := 0, cells := 0, slots := 0, locals := 0 })
def mX1_takeOutOf : zM := (yX1_takeOutOf, cX1_takeOutOf, 2, none, { frames := 2, cells := 0, slots := 0, locals := 48 })
def mX1_tell : zM := (yX1_tell, cX1_tell, 2, (some .int), { frames := 0, cells := 0, slots := 0, locals := 0 })
def mX2_init : zM := (yX2_init, cX2_init, 2, none, { frames := 1, cells := 3, slots := 1033, locals := 20 })
def mX2_run : zM := (yX2_run, cX2_run, 9, none, { frames := 2, cells := 0, slots := 0, locals := 52 })
def mX2_begin : zM := (yX2_begin, cX2_begin, 3, none, { frames := 1, cells := 0, slots := 0, locals := 23 })
def mX2_monthsOf : zM := (yX2_monthsOf, cX2_monthsOf, 3, (some .int), { frames := 0, cells := 0, slots := 0, locals := 0 })
def mX2_doDeeds : zM := (yX2_doDeeds, cX2_doDeeds, 6, (some .int), { frames := 1, cells := 0, slots := 0, locals := 22 })
def mX2_growth : zM := (yX2_growth, cX2_growth, 3, (some .int), { frames := 0, cells := 0, slots := 0, locals := 0 })
def mX2_moult : zM := (yX2_moult, cX2_moult, 4, none, { frames := 0, cells := 0, slots := 0, locals := 0 })
def mX2_travel : zM := (yX2_travel, cX2_travel, 6, none, { frames := 1, cells := 0, slots := 0, locals := 21 })
def mX2_makeRounds : zM := (yX2_makeRounds, cX2_makeRounds, 7, none, { frames := 1, cells := 0, slots := 0, locals := 26 })
def mX2_woolliestIn : zM := (yX2_woolliestIn, cX2_woolliestIn, 5, (some .int), { frames := 0, cells := 0, slots := 0, locals := 0 })
def mX2_shear : zM := (yX2_shear, cX2_shear, 7, none, { frames := 0, cells := 0, slots := 0, locals := 0 })
def mX2_lives : zM := (yX2_lives, cX2_lives, 2, (some .boolean), { frames := 0, cells := 0, slots := 0, locals := 0 })
def mX2_livesBehind : zM := (yX2_livesBehind, cX2_livesBehind, 3, (some .boolean), { frames := 0, cells := 0, slots := 0, locals := 0 })
def mX2_behind : zM := (yX2_behind, cX2_behind, 3, (some .int), { frames := 0, cells := 0, slots := 0, locals := 0 })
def mX2_deathOf : zM := (yX2_deathOf, cX2_deathOf, 2, (some .int), { frames := 0, cells := 0, slots := 0, locals := 0 })
def mX2_living : zM := (yX2_living, cX2_living, 3, (some .int), { frames := 0, cells := 0, slots := 0, locals := 0 })
def mX2_taxBehind : zM := (yX2_taxBehind, cX2_taxBehind, 4, (some .int), { frames := 1, cells := 0, slots := 0, locals := 22 })
def mX2_heaviestBehind : zM := (yX2_heaviestBehind, cX2_heaviestBehind, 5, (some .int), { frames := 1, cells := 0, slots := 0, locals := 22 })
def mX2_worthInAll : zM := (yX2_worthInAll, cX2_worthInAll, 3, (some .int), { frames := 1, cells := 0, slots := 0, locals := 22 })
def mX3_init : zM := (yX3_init, cX3_init, 2, none, { frames := 3, cells := 25, slots := 1195, locals := 63 })
def mX3_afresh : zM := (yX3_afresh, cX3_afresh, 1, none, { frames := 3, cells := 0, slots := 0, locals := 69 })
def mX4_init : zM := (yX4_init, cX4_init, 2, none, { frames := 2, cells := 2, slots := 450, locals := 40 })
def mX4_unsettle : zM := (yX4_unsettle, cX4_unsettle, 1, none, { frames := 0, cells := 0, slots := 0, locals := 0 })
def mX4_findRound : zM := (yX4_findRound, cX4_findRound, 5, none, { frames := 4, cells := 0, slots := 0, locals := 89 })
def mX4_fewestDeeds : zM := (yX4_fewestDeeds, cX4_fewestDeeds, 5, (some .int), { frames := 4, cells := 0, slots := 0, locals := 89 })
def mX4_measure : zM := (yX4_measure, cX4_measure, 5, none, { frames := 1, cells := 0, slots := 0, locals := 22 })
def mX4_fewestRounds : zM := (yX4_fewestRounds, cX4_fewestRounds, 3, (some .int), { frames := 4, cells := 0, slots := 0, locals := 89 })
def mX4_findHome : zM := (yX4_findHome, cX4_findHome, 4, none, { frames := 4, cells := 0, slots := 0, locals := 89 })
def mX5_init (n : Nat) : zM := (yX5_init, cX5_init, 3, none, { frames := 1, cells := 3, slots := 3 * n, locals := 21 })
def mX5_append : zM := (yX5_append, cX5_append, 4, (some .int), { frames := 0, cells := 0, slots := 0, locals := 0 })
def mX5_cell : zM := (yX5_cell, cX5_cell, 3, (some .int), { frames := 0, cells := 0, slots := 0, locals := 0 })
def mX5_setCell : zM := (yX5_setCell, cX5_setCell, 4, none, { frames := 0, cells := 0, slots := 0, locals := 0 })
def mX5_takeOut : zM := (yX5_takeOut, cX5_takeOut, 3, none, { frames := 1, cells := 0, slots := 0, locals := 26 })
def mX5_become : zM := (yX5_become, cX5_become, 3, none, { frames := 1, cells := 0, slots := 0, locals := 26 })
def mX6_init : zM := (yX6_init, cX6_init, 1, none, { frames := 1, cells := 3, slots := 248, locals := 23 })
def mX6_finding : zM := (yX6_finding, cX6_finding, 2, (some .int), { frames := 0, cells := 0, slots := 0, locals := 0 })
def mX6_isLost : zM := (yX6_isLost, cX6_isLost, 2, (some .boolean), { frames := 0, cells := 0, slots := 0, locals := 0 })
def mX6_length : zM := (yX6_length, cX6_length, 2, (some .int), { frames := 1, cells := 0, slots := 0, locals := 21 })
def mX6_renew : zM := (yX6_renew, cX6_renew, 5, (some .int), { frames := 0, cells := 0, slots := 0, locals := 0 })
def mX6_drop : zM := (yX6_drop, cX6_drop, 2, (some .int), { frames := 1, cells := 0, slots := 0, locals := 21 })
def mX6_holds : zM := (yX6_holds, cX6_holds, 4, (some .boolean), { frames := 2, cells := 0, slots := 0, locals := 42 })
def mX6_alike : zM := (yX6_alike, cX6_alike, 3, (some .boolean), { frames := 1, cells := 0, slots := 0, locals := 21 })
def mX6_faultAt : zM := (yX6_faultAt, cX6_faultAt, 4, (some .int), { frames := 3, cells := 0, slots := 0, locals := 65 })
def mX6_item : zM := (yX6_item, cX6_item, 3, (some .int), { frames := 3, cells := 0, slots := 0, locals := 65 })
def mX6_store : zM := (yX6_store, cX6_store, 4, none, { frames := 3, cells := 0, slots := 0, locals := 65 })
def mX6_move : zM := (yX6_move, cX6_move, 6, none, { frames := 3, cells := 0, slots := 0, locals := 65 })
def mX7_init (n : Nat) : zM := (yX7_init, cX7_init, 5, none, { frames := 1, cells := 1, slots := n, locals := 21 })
def mX7_append : zM := (yX7_append, cX7_append, 2, (some .int), { frames := 0, cells := 0, slots := 0, locals := 0 })
def mX7_faultPlace : zM := (yX7_faultPlace, cX7_faultPlace, 2, (some .int), { frames := 5, cells := 0, slots := 0, locals := 112 })
def mX7_readInto : zM := (yX7_readInto, cX7_readInto, 3, none, { frames := 6, cells := 0, slots := 0, locals := 133 })
def mX7_meaningAt : zM := (yX7_meaningAt, cX7_meaningAt, 2, (some .int), { frames := 4, cells := 0, slots := 0, locals := 91 })
def mX7_signsAt : zM := (yX7_signsAt, cX7_signsAt, 2, (some (.object "java/lang/String")), { frames := 0, cells := 0, slots := 0, locals := 0 })
def mX8_init : zM := (yX8_init, cX8_init, 1, none, { frames := 2, cells := 20, slots := 149, locals := 43 })
def mX8_become : zM := (yX8_become, cX8_become, 2, none, { frames := 2, cells := 0, slots := 0, locals := 48 })
def mX9_init : zM := (yX9_init, cX9_init, 2, none, { frames := 2, cells := 5, slots := 1948, locals := 43 })
def mX9_unsettle : zM := (yX9_unsettle, cX9_unsettle, 1, none, { frames := 0, cells := 0, slots := 0, locals := 0 })
def mX9_survey : zM := (yX9_survey, cX9_survey, 2, none, { frames := 4, cells := 0, slots := 0, locals := 89 })
def mX9_keepWools : zM := (yX9_keepWools, cX9_keepWools, 4, none, { frames := 1, cells := 0, slots := 0, locals := 22 })
def mX9_placeOf : zM := (yX9_placeOf, cX9_placeOf, 3, (some .int), { frames := 0, cells := 0, slots := 0, locals := 0 })
def mX9_fitting : zM := (yX9_fitting, cX9_fitting, 7, (some .int), { frames := 4, cells := 0, slots := 0, locals := 89 })
def mX9_lastSeen : zM := (yX9_lastSeen, cX9_lastSeen, 3, (some .int), { frames := 1, cells := 0, slots := 0, locals := 21 })
def mX9_comesOut : zM := (yX9_comesOut, cX9_comesOut, 3, (some .boolean), { frames := 1, cells := 0, slots := 0, locals := 22 })
def mX9_monthToAsk : zM := (yX9_monthToAsk, cX9_monthToAsk, 6, (some .int), { frames := 3, cells := 0, slots := 0, locals := 72 })
def mX9_mostAlike : zM := (yX9_mostAlike, cX9_mostAlike, 5, (some .int), { frames := 2, cells := 0, slots := 0, locals := 48 })
def mX9_manyLike : zM := (yX9_manyLike, cX9_manyLike, 7, (some .int), { frames := 1, cells := 0, slots := 0, locals := 22 })
def mX10_init : zM := (yX10_init, cX10_init, 1, none, { frames := 4, cells := 71, slots := 5161, locals := 84 })
def mX10_type : zM := (yX10_type, cX10_type, 4, (some .int), { frames := 8, cells := 0, slots := 0, locals := 175 })
def mX10_wipe : zM := (yX10_wipe, cX10_wipe, 3, (some .int), { frames := 8, cells := 0, slots := 0, locals := 175 })
def mX10_undo : zM := (yX10_undo, cX10_undo, 2, (some .int), { frames := 8, cells := 0, slots := 0, locals := 175 })
def mX10_fault : zM := (yX10_fault, cX10_fault, 2, (some .int), { frames := 6, cells := 0, slots := 0, locals := 133 })
def mX10_person : zM := (yX10_person, cX10_person, 3, (some .int), { frames := 2, cells := 0, slots := 0, locals := 43 })
def mX10_deed : zM := (yX10_deed, cX10_deed, 3, (some .int), { frames := 2, cells := 0, slots := 0, locals := 43 })
def mX10_set : zM := (yX10_set, cX10_set, 4, (some .int), { frames := 2, cells := 0, slots := 0, locals := 40 })
def mX10_round : zM := (yX10_round, cX10_round, 4, (some .int), { frames := 2, cells := 0, slots := 0, locals := 42 })
def mX10_journey : zM := (yX10_journey, cX10_journey, 4, (some .int), { frames := 2, cells := 0, slots := 0, locals := 42 })
def mX10_frost : zM := (yX10_frost, cX10_frost, 2, (some .int), { frames := 2, cells := 0, slots := 0, locals := 42 })
def mX10_back : zM := (yX10_back, cX10_back, 3, (some .int), { frames := 2, cells := 0, slots := 0, locals := 40 })
def mX10_read : zM := (yX10_read, cX10_read, 4, (some .int), { frames := 4, cells := 0, slots := 0, locals := 87 })
def mX10_wool : zM := (yX10_wool, cX10_wool, 4, (some .int), { frames := 4, cells := 0, slots := 0, locals := 100 })
def mX10_dies : zM := (yX10_dies, cX10_dies, 2, (some .int), { frames := 4, cells := 0, slots := 0, locals := 100 })
def mX10_cloth : zM := (yX10_cloth, cX10_cloth, 4, (some .int), { frames := 4, cells := 0, slots := 0, locals := 100 })
def mX10_thorn : zM := (yX10_thorn, cX10_thorn, 2, (some .int), { frames := 4, cells := 0, slots := 0, locals := 100 })
def mX10_tax : zM := (yX10_tax, cX10_tax, 2, (some .int), { frames := 4, cells := 0, slots := 0, locals := 100 })
def mX10_heaviest : zM := (yX10_heaviest, cX10_heaviest, 2, (some .int), { frames := 4, cells := 0, slots := 0, locals := 100 })
def mX10_first : zM := (yX10_first, cX10_first, 2, (some .int), { frames := 4, cells := 0, slots := 0, locals := 100 })
def mX10_plan : zM := (yX10_plan, cX10_plan, 3, (some .int), { frames := 5, cells := 0, slots := 0, locals := 113 })
def mX10_light : zM := (yX10_light, cX10_light, 4, (some .int), { frames := 5, cells := 0, slots := 0, locals := 113 })
def mX10_spare : zM := (yX10_spare, cX10_spare, 2, (some .int), { frames := 5, cells := 0, slots := 0, locals := 111 })
def mX10_home : zM := (yX10_home, cX10_home, 3, (some .int), { frames := 5, cells := 0, slots := 0, locals := 112 })
def mX10_seen : zM := (yX10_seen, cX10_seen, 4, (some .int), { frames := 2, cells := 0, slots := 0, locals := 42 })
def mX10_forget : zM := (yX10_forget, cX10_forget, 2, (some .int), { frames := 1, cells := 0, slots := 0, locals := 20 })
def mX10_never : zM := (yX10_never, cX10_never, 1, (some .int), { frames := 5, cells := 0, slots := 0, locals := 110 })
def mX10_was : zM := (yX10_was, cX10_was, 3, (some .int), { frames := 5, cells := 0, slots := 0, locals := 115 })
def mX10_ask : zM := (yX10_ask, cX10_ask, 2, (some .int), { frames := 5, cells := 0, slots := 0, locals := 110 })
def mX10_virtue : zM := (yX10_virtue, cX10_virtue, 5, (some .long), { frames := 5, cells := 0, slots := 0, locals := 118 })
def mX10_years : zM := (yX10_years, cX10_years, 5, (some .int), { frames := 5, cells := 0, slots := 0, locals := 116 })
def mX10_sheet : zM := (yX10_sheet, cX10_sheet, 4, (some .int), { frames := 2, cells := 0, slots := 0, locals := 42 })
def mX10_lose : zM := (yX10_lose, cX10_lose, 2, (some .int), { frames := 2, cells := 0, slots := 0, locals := 42 })
def mX10_put : zM := (yX10_put, cX10_put, 6, (some .int), { frames := 4, cells := 0, slots := 0, locals := 88 })
def mX10_get : zM := (yX10_get, cX10_get, 5, (some .int), { frames := 4, cells := 0, slots := 0, locals := 88 })
def mX10_copy : zM := (yX10_copy, cX10_copy, 6, (some .int), { frames := 4, cells := 0, slots := 0, locals := 90 })
def mX10_write : zM := (yX10_write, cX10_write, 5, (some .int), { frames := 4, cells := 0, slots := 0, locals := 100 })
def mX10_count : zM := (yX10_count, cX10_count, 2, (some .int), { frames := 4, cells := 0, slots := 0, locals := 100 })
def mX10_digest : zM := (yX10_digest, cX10_digest, 5, (some .long), { frames := 7, cells := 0, slots := 0, locals := 170 })
def mX10_digestPerson : zM := (yX10_digestPerson, cX10_digestPerson, 9, (some .long), { frames := 6, cells := 0, slots := 0, locals := 142 })
def mX10_within : zM := (yX10_within, cX10_within, 3, (some .boolean), { frames := 0, cells := 0, slots := 0, locals := 0 })
def mX10_isMonth : zM := (yX10_isMonth, cX10_isMonth, 1, (some .boolean), { frames := 1, cells := 0, slots := 0, locals := 22 })
def mX10_isCounty : zM := (yX10_isCounty, cX10_isCounty, 1, (some .boolean), { frames := 1, cells := 0, slots := 0, locals := 22 })
def mX10_isSheet : zM := (yX10_isSheet, cX10_isSheet, 1, (some .boolean), { frames := 1, cells := 0, slots := 0, locals := 22 })
def mX10_isPerson : zM := (yX10_isPerson, cX10_isPerson, 2, (some .boolean), { frames := 1, cells := 0, slots := 0, locals := 22 })
def mX10_isDeed : zM := (yX10_isDeed, cX10_isDeed, 2, (some .boolean), { frames := 1, cells := 0, slots := 0, locals := 22 })
def mX10_textOf : zM := (yX10_textOf, cX10_textOf, 2, (some (.object "ShornSins$Text")), { frames := 0, cells := 0, slots := 0, locals := 0 })
def mX10_readTexts : zM := (yX10_readTexts, cX10_readTexts, 1, none, { frames := 7, cells := 0, slots := 0, locals := 155 })
def mX10_unsettle : zM := (yX10_unsettle, cX10_unsettle, 1, none, { frames := 1, cells := 0, slots := 0, locals := 20 })
def mX10_settle : zM := (yX10_settle, cX10_settle, 1, none, { frames := 3, cells := 0, slots := 0, locals := 80 })
def mX11_init : zM := (yX11_init, cX11_init, 1, none, { frames := 1, cells := 40, slots := 1641, locals := 20 })
def mX11_in : zM := (yX11_in, cX11_in, 3, (some .boolean), { frames := 0, cells := 0, slots := 0, locals := 0 })
def mX11_isIn : zM := (yX11_isIn, cX11_isIn, 2, (some .boolean), { frames := 0, cells := 0, slots := 0, locals := 0 })
def mX11_no : zM := (yX11_no, cX11_no, 1, (some .long), { frames := 0, cells := 0, slots := 0, locals := 0 })
def mX11_lowest : zM := (yX11_lowest, cX11_lowest, 11, (some .long), { frames := 0, cells := 0, slots := 0, locals := 0 })
def mX11_isText : zM := (yX11_isText, cX11_isText, 1, (some .boolean), { frames := 1, cells := 0, slots := 0, locals := 22 })
def mX11_isMonth : zM := (yX11_isMonth, cX11_isMonth, 1, (some .boolean), { frames := 1, cells := 0, slots := 0, locals := 22 })
def mX11_isCounty : zM := (yX11_isCounty, cX11_isCounty, 1, (some .boolean), { frames := 1, cells := 0, slots := 0, locals := 22 })
def mX11_type : zM := (yX11_type, cX11_type, 3, (some .int), { frames := 2, cells := 0, slots := 0, locals := 42 })
def mX11_wipe : zM := (yX11_wipe, cX11_wipe, 3, (some .int), { frames := 2, cells := 0, slots := 0, locals := 42 })
def mX11_undo : zM := (yX11_undo, cX11_undo, 2, (some .int), { frames := 2, cells := 0, slots := 0, locals := 42 })
def mX11_byteAt : zM := (yX11_byteAt, cX11_byteAt, 3, (some .int), { frames := 0, cells := 0, slots := 0, locals := 0 })
def mX11_readsPerson : zM := (yX11_readsPerson, cX11_readsPerson, 7, (some .int), { frames := 1, cells := 0, slots := 0, locals := 22 })
def mX11_readsDeed : zM := (yX11_readsDeed, cX11_readsDeed, 7, (some .int), { frames := 1, cells := 0, slots := 0, locals := 22 })
def mX11_readsParts : zM := (yX11_readsParts, cX11_readsParts, 6, (some .int), { frames := 2, cells := 0, slots := 0, locals := 48 })
def mX11_faultOf : zM := (yX11_faultOf, cX11_faultOf, 4, (some .int), { frames := 3, cells := 0, slots := 0, locals := 73 })
def mX11_reads : zM := (yX11_reads, cX11_reads, 2, none, { frames := 4, cells := 0, slots := 0, locals := 96 })
def mX11_fault : zM := (yX11_fault, cX11_fault, 2, (some .int), { frames := 4, cells := 0, slots := 0, locals := 96 })
def mX11_isPerson : zM := (yX11_isPerson, cX11_isPerson, 2, (some .boolean), { frames := 5, cells := 0, slots := 0, locals := 117 })
def mX11_isDeed : zM := (yX11_isDeed, cX11_isDeed, 2, (some .boolean), { frames := 5, cells := 0, slots := 0, locals := 117 })
def mX11_personOf : zM := (yX11_personOf, cX11_personOf, 3, (some .int), { frames := 0, cells := 0, slots := 0, locals := 0 })
def mX11_person : zM := (yX11_person, cX11_person, 3, (some .int), { frames := 6, cells := 0, slots := 0, locals := 138 })
def mX11_deedOf : zM := (yX11_deedOf, cX11_deedOf, 3, (some .int), { frames := 0, cells := 0, slots := 0, locals := 0 })
def mX11_deed : zM := (yX11_deed, cX11_deed, 3, (some .int), { frames := 6, cells := 0, slots := 0, locals := 138 })
def mX11_set : zM := (yX11_set, cX11_set, 4, (some .int), { frames := 1, cells := 0, slots := 0, locals := 22 })
def mX11_round : zM := (yX11_round, cX11_round, 4, (some .int), { frames := 2, cells := 0, slots := 0, locals := 42 })
def mX11_journey : zM := (yX11_journey, cX11_journey, 4, (some .int), { frames := 2, cells := 0, slots := 0, locals := 42 })
def mX11_frost : zM := (yX11_frost, cX11_frost, 2, (some .int), { frames := 2, cells := 0, slots := 0, locals := 42 })
def mX11_back : zM := (yX11_back, cX11_back, 3, (some .int), { frames := 1, cells := 0, slots := 0, locals := 22 })
def mX11_read : zM := (yX11_read, cX11_read, 3, (some .int), { frames := 3, cells := 0, slots := 0, locals := 65 })
def mX11_asTold : zM := (yX11_asTold, cX11_asTold, 2, none, { frames := 5, cells := 0, slots := 0, locals := 117 })
def mX11_lives : zM := (yX11_lives, cX11_lives, 2, (some .boolean), { frames := 1, cells := 0, slots := 0, locals := 22 })
def mX11_weightOf : zM := (yX11_weightOf, cX11_weightOf, 1, (some .int), { frames := 0, cells := 0, slots := 0, locals := 0 })
def mX11_grows : zM := (yX11_grows, cX11_grows, 5, none, { frames := 2, cells := 0, slots := 0, locals := 43 })
def mX11_goes : zM := (yX11_goes, cX11_goes, 5, none, { frames := 2, cells := 0, slots := 0, locals := 43 })
def mX11_nextIn : zM := (yX11_nextIn, cX11_nextIn, 5, (some .int), { frames := 2, cells := 0, slots := 0, locals := 43 })
def mX11_shears : zM := (yX11_shears, cX11_shears, 4, none, { frames := 1, cells := 0, slots := 0, locals := 21 })
def mX11_shearsAll : zM := (yX11_shearsAll, cX11_shearsAll, 5, none, { frames := 3, cells := 0, slots := 0, locals := 67 })
def mX11_heaviestNow : zM := (yX11_heaviestNow, cX11_heaviestNow, 3, (some .int), { frames := 2, cells := 0, slots := 0, locals := 43 })
def mX11_keeps : zM := (yX11_keeps, cX11_keeps, 4, none, { frames := 3, cells := 0, slots := 0, locals := 65 })
def mX11_runs : zM := (yX11_runs, cX11_runs, 2, none, { frames := 4, cells := 0, slots := 0, locals := 91 })
def mX11_runsTold : zM := (yX11_runsTold, cX11_runsTold, 1, none, { frames := 6, cells := 0, slots := 0, locals := 138 })
def mX11_woolOf : zM := (yX11_woolOf, cX11_woolOf, 4, (some .int), { frames := 7, cells := 0, slots := 0, locals := 158 })
def mX11_wool : zM := (yX11_wool, cX11_wool, 4, (some .int), { frames := 8, cells := 0, slots := 0, locals := 181 })
def mX11_diesOf : zM := (yX11_diesOf, cX11_diesOf, 2, (some .int), { frames := 7, cells := 0, slots := 0, locals := 158 })
def mX11_dies : zM := (yX11_dies, cX11_dies, 2, (some .int), { frames := 8, cells := 0, slots := 0, locals := 179 })
def mX11_clothOf : zM := (yX11_clothOf, cX11_clothOf, 4, (some .int), { frames := 7, cells := 0, slots := 0, locals := 158 })
def mX11_cloth : zM := (yX11_cloth, cX11_cloth, 4, (some .int), { frames := 8, cells := 0, slots := 0, locals := 181 })
def mX11_thornOf : zM := (yX11_thornOf, cX11_thornOf, 2, (some .int), { frames := 7, cells := 0, slots := 0, locals := 158 })
def mX11_thorn : zM := (yX11_thorn, cX11_thorn, 2, (some .int), { frames := 8, cells := 0, slots := 0, locals := 179 })
def mX11_taxOf : zM := (yX11_taxOf, cX11_taxOf, 2, (some .int), { frames := 7, cells := 0, slots := 0, locals := 158 })
def mX11_tax : zM := (yX11_tax, cX11_tax, 2, (some .int), { frames := 8, cells := 0, slots := 0, locals := 179 })
def mX11_heaviestOf : zM := (yX11_heaviestOf, cX11_heaviestOf, 2, (some .int), { frames := 7, cells := 0, slots := 0, locals := 158 })
def mX11_heaviest : zM := (yX11_heaviest, cX11_heaviest, 2, (some .int), { frames := 8, cells := 0, slots := 0, locals := 179 })
def mX11_firstOf : zM := (yX11_firstOf, cX11_firstOf, 2, (some .int), { frames := 7, cells := 0, slots := 0, locals := 158 })
def mX11_first : zM := (yX11_first, cX11_first, 2, (some .int), { frames := 8, cells := 0, slots := 0, locals := 179 })
def mX11_worthAll : zM := (yX11_worthAll, cX11_worthAll, 3, (some .int), { frames := 0, cells := 0, slots := 0, locals := 0 })
def mX11_planOf : zM := (yX11_planOf, cX11_planOf, 8, (some .int), { frames := 6, cells := 0, slots := 0, locals := 138 })
def mX11_plan : zM := (yX11_plan, cX11_plan, 3, (some .int), { frames := 7, cells := 0, slots := 0, locals := 165 })
def mX11_ofRow : zM := (yX11_ofRow, cX11_ofRow, 3, (some .int), { frames := 0, cells := 0, slots := 0, locals := 0 })
def mX11_isLight : zM := (yX11_isLight, cX11_isLight, 6, (some .boolean), { frames := 5, cells := 0, slots := 0, locals := 112 })
def mX11_lightBy : zM := (yX11_lightBy, cX11_lightBy, 5, (some .int), { frames := 6, cells := 0, slots := 0, locals := 138 })
def mX11_light : zM := (yX11_light, cX11_light, 4, (some .int), { frames := 7, cells := 0, slots := 0, locals := 162 })
def mX11_livesMany : zM := (yX11_livesMany, cX11_livesMany, 3, (some .int), { frames := 2, cells := 0, slots := 0, locals := 43 })
def mX11_isSpared : zM := (yX11_isSpared, cX11_isSpared, 2, (some .boolean), { frames := 5, cells := 0, slots := 0, locals := 112 })
def mX11_spareBy : zM := (yX11_spareBy, cX11_spareBy, 3, (some .int), { frames := 6, cells := 0, slots := 0, locals := 138 })
def mX11_spare : zM := (yX11_spare, cX11_spare, 2, (some .int), { frames := 7, cells := 0, slots := 0, locals := 160 })
def mX11_homeOf : zM := (yX11_homeOf, cX11_homeOf, 7, (some .int), { frames := 6, cells := 0, slots := 0, locals := 138 })
def mX11_home : zM := (yX11_home, cX11_home, 3, (some .int), { frames := 7, cells := 0, slots := 0, locals := 164 })
def mX11_seen : zM := (yX11_seen, cX11_seen, 4, (some .int), { frames := 2, cells := 0, slots := 0, locals := 42 })
def mX11_forget : zM := (yX11_forget, cX11_forget, 2, (some .int), { frames := 0, cells := 0, slots := 0, locals := 0 })
def mX11_isSeen : zM := (yX11_isSeen, cX11_isSeen, 3, (some .boolean), { frames := 5, cells := 0, slots := 0, locals := 112 })
def mX11_neverNow : zM := (yX11_neverNow, cX11_neverNow, 3, (some .int), { frames := 6, cells := 0, slots := 0, locals := 138 })
def mX11_never : zM := (yX11_never, cX11_never, 1, (some .int), { frames := 7, cells := 0, slots := 0, locals := 160 })
def mX11_wasOf : zM := (yX11_wasOf, cX11_wasOf, 7, (some .int), { frames := 6, cells := 0, slots := 0, locals := 138 })
def mX11_was : zM := (yX11_was, cX11_was, 3, (some .int), { frames := 7, cells := 0, slots := 0, locals := 164 })
def mX11_askOf : zM := (yX11_askOf, cX11_askOf, 10, (some .int), { frames := 7, cells := 0, slots := 0, locals := 160 })
def mX11_ask : zM := (yX11_ask, cX11_ask, 2, (some .int), { frames := 8, cells := 0, slots := 0, locals := 189 })
def mX11_virtueOf : zM := (yX11_virtueOf, cX11_virtueOf, 11, (some .long), { frames := 6, cells := 0, slots := 0, locals := 138 })
def mX11_virtue : zM := (yX11_virtue, cX11_virtue, 5, (some .long), { frames := 7, cells := 0, slots := 0, locals := 168 })
def mX11_yearsOf : zM := (yX11_yearsOf, cX11_yearsOf, 6, (some .int), { frames := 6, cells := 0, slots := 0, locals := 138 })
def mX11_years : zM := (yX11_years, cX11_years, 4, (some .int), { frames := 7, cells := 0, slots := 0, locals := 163 })
def mX11_meets : zM := (yX11_meets, cX11_meets, 2, (some .int), { frames := 0, cells := 0, slots := 0, locals := 0 })
def mX11_isSheet : zM := (yX11_isSheet, cX11_isSheet, 1, (some .boolean), { frames := 1, cells := 0, slots := 0, locals := 22 })
def mX11_sheet : zM := (yX11_sheet, cX11_sheet, 5, (some .int), { frames := 2, cells := 0, slots := 0, locals := 42 })
def mX11_lose : zM := (yX11_lose, cX11_lose, 2, (some .int), { frames := 2, cells := 0, slots := 0, locals := 42 })
def mX11_lacks : zM := (yX11_lacks, cX11_lacks, 4, (some .int), { frames := 1, cells := 0, slots := 0, locals := 22 })
def mX11_keep : zM := (yX11_keep, cX11_keep, 4, none, { frames := 0, cells := 0, slots := 0, locals := 0 })
def mX11_put : zM := (yX11_put, cX11_put, 6, (some .int), { frames := 2, cells := 0, slots := 0, locals := 45 })
def mX11_get : zM := (yX11_get, cX11_get, 5, (some .int), { frames := 2, cells := 0, slots := 0, locals := 45 })
def mX11_copy : zM := (yX11_copy, cX11_copy, 7, (some .int), { frames := 2, cells := 0, slots := 0, locals := 42 })
def mX11_write : zM := (yX11_write, cX11_write, 4, (some .int), { frames := 7, cells := 0, slots := 0, locals := 158 })
def mX11_sumOf : zM := (yX11_sumOf, cX11_sumOf, 2, (some .int), { frames := 7, cells := 0, slots := 0, locals := 158 })
def mX11_count : zM := (yX11_count, cX11_count, 2, (some .int), { frames := 8, cells := 0, slots := 0, locals := 179 })
def mX11_monthDigest : zM := (yX11_monthDigest, cX11_monthDigest, 8, (some .long), { frames := 8, cells := 0, slots := 0, locals := 181 })
def mX11_personDigest : zM := (yX11_personDigest, cX11_personDigest, 7, (some .long), { frames := 9, cells := 0, slots := 0, locals := 208 })
def mX11_deedDigest : zM := (yX11_deedDigest, cX11_deedDigest, 7, (some .long), { frames := 7, cells := 0, slots := 0, locals := 164 })
def mX11_countyDigest : zM := (yX11_countyDigest, cX11_countyDigest, 6, (some .long), { frames := 8, cells := 0, slots := 0, locals := 181 })
def mX11_thornDigest : zM := (yX11_thornDigest, cX11_thornDigest, 6, (some .long), { frames := 8, cells := 0, slots := 0, locals := 179 })
def mX11_digest : zM := (yX11_digest, cX11_digest, 4, (some .long), { frames := 10, cells := 0, slots := 0, locals := 234 })
def mJ6_bitCount_0f7a4 : zM := (yJ6_bitCount_0f7a4, cJ6_bitCount_0f7a4, 1, (some .int), { frames := 0, cells := 0, slots := 0, locals := 0 })
def mJ0_length_8abf5 : zM := (yJ0_length_8abf5, cJ0_length_8abf5, 1, (some .int), { frames := 1, cells := 0, slots := 0, locals := 20 })
def mJ0_indexOf_0f7a4 : zM := (yJ0_indexOf_0f7a4, cJ0_indexOf_0f7a4, 2, (some .int), { frames := 3, cells := 0, slots := 0, locals := 70 })
def mJ0_indexOf_7cf53 : zM := (yJ0_indexOf_7cf53, cJ0_indexOf_7cf53, 3, (some .int), { frames := 2, cells := 0, slots := 0, locals := 48 })
def mJ0_coder_7d493 : zM := (yJ0_coder_7d493, cJ0_coder_7d493, 1, (some .byte), { frames := 0, cells := 0, slots := 0, locals := 0 })
def mJ0_isLatin1_aae02 : zM := (yJ0_isLatin1_aae02, cJ0_isLatin1_aae02, 1, (some .boolean), { frames := 0, cells := 0, slots := 0, locals := 0 })
def mJ1_canEncode_9a6ad : zM := (yJ1_canEncode_9a6ad, cJ1_canEncode_9a6ad, 1, (some .boolean), { frames := 0, cells := 0, slots := 0, locals := 0 })
def mJ1_indexOf_4cfef : zM := (yJ1_indexOf_4cfef, cJ1_indexOf_4cfef, 4, (some .int), { frames := 1, cells := 0, slots := 0, locals := 25 })
def mJ1_indexOfChar_4cfef : zM := (yJ1_indexOfChar_4cfef, cJ1_indexOfChar_4cfef, 6, (some .int), { frames := 0, cells := 0, slots := 0, locals := 0 })
def mJ7_fill_d0a16 : zM := (yJ7_fill_d0a16, cJ7_fill_d0a16, 5, none, { frames := 0, cells := 0, slots := 0, locals := 0 })
def mJ7_fill_53178 : zM := (yJ7_fill_53178, cJ7_fill_53178, 4, none, { frames := 0, cells := 0, slots := 0, locals := 0 })
abbrev mL_law : zM := (x, code, 4, ret, room_1)
theorem pn_X0_unsettle : zpn mX0_unsettle := ⟨by decide, by decide⟩
theorem pn_X0_above : zpn mX0_above := ⟨by decide, by decide⟩
theorem pn_X0_below : zpn mX0_below := ⟨by decide, by decide⟩
theorem pn_X0_findLiving : zpn mX0_findLiving := ⟨by decide, by decide⟩
theorem pn_X0_supposeFrosts : zpn mX0_supposeFrosts := ⟨by decide, by decide⟩
theorem pn_X0_addToLiving : zpn mX0_addToLiving := ⟨by decide, by decide⟩
theorem pn_X0_reduce : zpn mX0_reduce := ⟨by decide, by decide⟩
theorem pn_X0_power : zpn mX0_power := ⟨by decide, by decide⟩
theorem pn_X0_runYears : zpn mX0_runYears := ⟨by decide, by decide⟩
theorem pn_X0_lot : zpn mX0_lot := ⟨by decide, by decide⟩
theorem pn_X1_begin : zpn mX1_begin := ⟨by decide, by decide⟩
theorem pn_X1_goOn : zpn mX1_goOn := ⟨by decide, by decide⟩
theorem pn_X1_takeOutOf : zpn mX1_takeOutOf := ⟨by decide, by decide⟩
theorem pn_X1_tell : zpn mX1_tell := ⟨by decide, by decide⟩
theorem pn_X2_run : zpn mX2_run := ⟨by decide, by decide⟩
theorem pn_X2_begin : zpn mX2_begin := ⟨by decide, by decide⟩
theorem pn_X2_monthsOf : zpn mX2_monthsOf := ⟨by decide, by decide⟩
theorem pn_X2_doDeeds : zpn mX2_doDeeds := ⟨by decide, by decide⟩
theorem pn_X2_growth : zpn mX2_growth := ⟨by decide, by decide⟩
theorem pn_X2_moult : zpn mX2_moult := ⟨by decide, by decide⟩
theorem pn_X2_travel : zpn mX2_travel := ⟨by decide, by decide⟩
theorem pn_X2_makeRounds : zpn mX2_makeRounds := ⟨by decide, by decide⟩
theorem pn_X2_woolliestIn : zpn mX2_woolliestIn := ⟨by decide, by decide⟩
theorem pn_X2_shear : zpn mX2_shear := ⟨by decide, by decide⟩
theorem pn_X2_lives : zpn mX2_lives := ⟨by decide, by decide⟩
theorem pn_X2_livesBehind : zpn mX2_livesBehind := ⟨by decide, by decide⟩
theorem pn_X2_behind : zpn mX2_behind := ⟨by decide, by decide⟩
theorem pn_X2_deathOf : zpn mX2_deathOf := ⟨by decide, by decide⟩
theorem pn_X2_living : zpn mX2_living := ⟨by decide, by decide⟩
theorem pn_X2_taxBehind : zpn mX2_taxBehind := ⟨by decide, by decide⟩
theorem pn_X2_heaviestBehind : zpn mX2_heaviestBehind := ⟨by decide, by decide⟩
theorem pn_X2_worthInAll : zpn mX2_worthInAll := ⟨by decide, by decide⟩
theorem pn_X3_afresh : zpn mX3_afresh := ⟨by decide, by decide⟩
theorem pn_X4_unsettle : zpn mX4_unsettle := ⟨by decide, by decide⟩
theorem pn_X4_findRound : zpn mX4_findRound := ⟨by decide, by decide⟩
theorem pn_X4_fewestDeeds : zpn mX4_fewestDeeds := ⟨by decide, by decide⟩
theorem pn_X4_measure : zpn mX4_measure := ⟨by decide, by decide⟩
theorem pn_X4_fewestRounds : zpn mX4_fewestRounds := ⟨by decide, by decide⟩
theorem pn_X4_findHome : zpn mX4_findHome := ⟨by decide, by decide⟩
theorem pn_X5_append : zpn mX5_append := ⟨by decide, by decide⟩
theorem pn_X5_cell : zpn mX5_cell := ⟨by decide, by decide⟩
theorem pn_X5_setCell : zpn mX5_setCell := ⟨by decide, by decide⟩
theorem pn_X5_takeOut : zpn mX5_takeOut := ⟨by decide, by decide⟩
theorem pn_X5_become : zpn mX5_become := ⟨by decide, by decide⟩
theorem pn_X6_finding : zpn mX6_finding := ⟨by decide, by decide⟩
theorem pn_X6_isLost : zpn mX6_isLost := ⟨by decide, by decide⟩
theorem pn_X6_length : zpn mX6_length := ⟨by decide, by decide⟩
theorem pn_X6_renew : zpn mX6_renew := ⟨by decide, by decide⟩
theorem pn_X6_drop : zpn mX6_drop := ⟨by decide, by decide⟩
theorem pn_X6_holds : zpn mX6_holds := ⟨by decide, by decide⟩
theorem pn_X6_alike : zpn mX6_alike := ⟨by decide, by decide⟩
theorem pn_X6_faultAt : zpn mX6_faultAt := ⟨by decide, by decide⟩
theorem pn_X6_item : zpn mX6_item := ⟨by decide, by decide⟩
theorem pn_X6_store : zpn mX6_store := ⟨by decide, by decide⟩
theorem pn_X6_move : zpn mX6_move := ⟨by decide, by decide⟩
theorem pn_X7_append : zpn mX7_append := ⟨by decide, by decide⟩
theorem pn_X7_faultPlace : zpn mX7_faultPlace := ⟨by decide, by decide⟩
theorem pn_X7_readInto : zpn mX7_readInto := ⟨by decide, by decide⟩
theorem pn_X7_meaningAt : zpn mX7_meaningAt := ⟨by decide, by decide⟩
theorem pn_X7_signsAt : zpn mX7_signsAt := ⟨by decide, by decide⟩
theorem pn_X8_become : zpn mX8_become := ⟨by decide, by decide⟩
theorem pn_X9_unsettle : zpn mX9_unsettle := ⟨by decide, by decide⟩
theorem pn_X9_survey : zpn mX9_survey := ⟨by decide, by decide⟩
theorem pn_X9_keepWools : zpn mX9_keepWools := ⟨by decide, by decide⟩
theorem pn_X9_placeOf : zpn mX9_placeOf := ⟨by decide, by decide⟩
theorem pn_X9_fitting : zpn mX9_fitting := ⟨by decide, by decide⟩
theorem pn_X9_lastSeen : zpn mX9_lastSeen := ⟨by decide, by decide⟩
theorem pn_X9_comesOut : zpn mX9_comesOut := ⟨by decide, by decide⟩
theorem pn_X9_monthToAsk : zpn mX9_monthToAsk := ⟨by decide, by decide⟩
theorem pn_X9_mostAlike : zpn mX9_mostAlike := ⟨by decide, by decide⟩
theorem pn_X9_manyLike : zpn mX9_manyLike := ⟨by decide, by decide⟩
theorem pn_X10_type : zpn mX10_type := ⟨by decide, by decide⟩
theorem pn_X10_wipe : zpn mX10_wipe := ⟨by decide, by decide⟩
theorem pn_X10_undo : zpn mX10_undo := ⟨by decide, by decide⟩
theorem pn_X10_fault : zpn mX10_fault := ⟨by decide, by decide⟩
theorem pn_X10_person : zpn mX10_person := ⟨by decide, by decide⟩
theorem pn_X10_deed : zpn mX10_deed := ⟨by decide, by decide⟩
theorem pn_X10_set : zpn mX10_set := ⟨by decide, by decide⟩
theorem pn_X10_round : zpn mX10_round := ⟨by decide, by decide⟩
theorem pn_X10_journey : zpn mX10_journey := ⟨by decide, by decide⟩
theorem pn_X10_frost : zpn mX10_frost := ⟨by decide, by decide⟩
theorem pn_X10_back : zpn mX10_back := ⟨by decide, by decide⟩
theorem pn_X10_read : zpn mX10_read := ⟨by decide, by decide⟩
theorem pn_X10_wool : zpn mX10_wool := ⟨by decide, by decide⟩
theorem pn_X10_dies : zpn mX10_dies := ⟨by decide, by decide⟩
theorem pn_X10_cloth : zpn mX10_cloth := ⟨by decide, by decide⟩
theorem pn_X10_thorn : zpn mX10_thorn := ⟨by decide, by decide⟩
theorem pn_X10_tax : zpn mX10_tax := ⟨by decide, by decide⟩
theorem pn_X10_heaviest : zpn mX10_heaviest := ⟨by decide, by decide⟩
theorem pn_X10_first : zpn mX10_first := ⟨by decide, by decide⟩
theorem pn_X10_plan : zpn mX10_plan := ⟨by decide, by decide⟩
theorem pn_X10_light : zpn mX10_light := ⟨by decide, by decide⟩
theorem pn_X10_spare : zpn mX10_spare := ⟨by decide, by decide⟩
theorem pn_X10_home : zpn mX10_home := ⟨by decide, by decide⟩
theorem pn_X10_seen : zpn mX10_seen := ⟨by decide, by decide⟩
theorem pn_X10_forget : zpn mX10_forget := ⟨by decide, by decide⟩
theorem pn_X10_never : zpn mX10_never := ⟨by decide, by decide⟩
theorem pn_X10_was : zpn mX10_was := ⟨by decide, by decide⟩
theorem pn_X10_ask : zpn mX10_ask := ⟨by decide, by decide⟩
theorem pn_X10_virtue : zpn mX10_virtue := ⟨by decide, by decide⟩
theorem pn_X10_years : zpn mX10_years := ⟨by decide, by decide⟩
theorem pn_X10_sheet : zpn mX10_sheet := ⟨by decide, by decide⟩
theorem pn_X10_lose : zpn mX10_lose := ⟨by decide, by decide⟩
theorem pn_X10_put : zpn mX10_put := ⟨by decide, by decide⟩
theorem pn_X10_get : zpn mX10_get := ⟨by decide, by decide⟩
theorem pn_X10_copy : zpn mX10_copy := ⟨by decide, by decide⟩
theorem pn_X10_write : zpn mX10_write := ⟨by decide, by decide⟩
theorem pn_X10_count : zpn mX10_count := ⟨by decide, by decide⟩
theorem pn_X10_digest : zpn mX10_digest := ⟨by decide, by decide⟩
theorem pn_X10_digestPerson : zpn mX10_digestPerson := ⟨by decide, by decide⟩
theorem pn_X10_within : zpn mX10_within := ⟨by decide, by decide⟩
theorem pn_X10_isMonth : zpn mX10_isMonth := ⟨by decide, by decide⟩
theorem pn_X10_isCounty : zpn mX10_isCounty := ⟨by decide, by decide⟩
theorem pn_X10_isSheet : zpn mX10_isSheet := ⟨by decide, by decide⟩
theorem pn_X10_isPerson : zpn mX10_isPerson := ⟨by decide, by decide⟩
theorem pn_X10_isDeed : zpn mX10_isDeed := ⟨by decide, by decide⟩
theorem pn_X10_textOf : zpn mX10_textOf := ⟨by decide, by decide⟩
theorem pn_X10_readTexts : zpn mX10_readTexts := ⟨by decide, by decide⟩
theorem pn_X10_unsettle : zpn mX10_unsettle := ⟨by decide, by decide⟩
theorem pn_X10_settle : zpn mX10_settle := ⟨by decide, by decide⟩
theorem pn_X11_in : zpn mX11_in := ⟨by decide, by decide⟩
theorem pn_X11_isIn : zpn mX11_isIn := ⟨by decide, by decide⟩
theorem pn_X11_no : zpn mX11_no := ⟨by decide, by decide⟩
theorem pn_X11_lowest : zpn mX11_lowest := ⟨by decide, by decide⟩
theorem pn_X11_isText : zpn mX11_isText := ⟨by decide, by decide⟩
theorem pn_X11_isMonth : zpn mX11_isMonth := ⟨by decide, by decide⟩
theorem pn_X11_isCounty : zpn mX11_isCounty := ⟨by decide, by decide⟩
theorem pn_X11_type : zpn mX11_type := ⟨by decide, by decide⟩
theorem pn_X11_wipe : zpn mX11_wipe := ⟨by decide, by decide⟩
theorem pn_X11_undo : zpn mX11_undo := ⟨by decide, by decide⟩
theorem pn_X11_byteAt : zpn mX11_byteAt := ⟨by decide, by decide⟩
theorem pn_X11_readsPerson : zpn mX11_readsPerson := ⟨by decide, by decide⟩
theorem pn_X11_readsDeed : zpn mX11_readsDeed := ⟨by decide, by decide⟩
theorem pn_X11_readsParts : zpn mX11_readsParts := ⟨by decide, by decide⟩
theorem pn_X11_faultOf : zpn mX11_faultOf := ⟨by decide, by decide⟩
theorem pn_X11_reads : zpn mX11_reads := ⟨by decide, by decide⟩
theorem pn_X11_fault : zpn mX11_fault := ⟨by decide, by decide⟩
theorem pn_X11_isPerson : zpn mX11_isPerson := ⟨by decide, by decide⟩
theorem pn_X11_isDeed : zpn mX11_isDeed := ⟨by decide, by decide⟩
theorem pn_X11_personOf : zpn mX11_personOf := ⟨by decide, by decide⟩
theorem pn_X11_person : zpn mX11_person := ⟨by decide, by decide⟩
theorem pn_X11_deedOf : zpn mX11_deedOf := ⟨by decide, by decide⟩
theorem pn_X11_deed : zpn mX11_deed := ⟨by decide, by decide⟩
theorem pn_X11_set : zpn mX11_set := ⟨by decide, by decide⟩
theorem pn_X11_round : zpn mX11_round := ⟨by decide, by decide⟩
theorem pn_X11_journey : zpn mX11_journey := ⟨by decide, by decide⟩
theorem pn_X11_frost : zpn mX11_frost := ⟨by decide, by decide⟩
theorem pn_X11_back : zpn mX11_back := ⟨by decide, by decide⟩
theorem pn_X11_read : zpn mX11_read := ⟨by decide, by decide⟩
theorem pn_X11_asTold : zpn mX11_asTold := ⟨by decide, by decide⟩
theorem pn_X11_lives : zpn mX11_lives := ⟨by decide, by decide⟩
theorem pn_X11_weightOf : zpn mX11_weightOf := ⟨by decide, by decide⟩
theorem pn_X11_grows : zpn mX11_grows := ⟨by decide, by decide⟩
theorem pn_X11_goes : zpn mX11_goes := ⟨by decide, by decide⟩
theorem pn_X11_nextIn : zpn mX11_nextIn := ⟨by decide, by decide⟩
theorem pn_X11_shears : zpn mX11_shears := ⟨by decide, by decide⟩
theorem pn_X11_shearsAll : zpn mX11_shearsAll := ⟨by decide, by decide⟩
theorem pn_X11_heaviestNow : zpn mX11_heaviestNow := ⟨by decide, by decide⟩
theorem pn_X11_keeps : zpn mX11_keeps := ⟨by decide, by decide⟩
theorem pn_X11_runs : zpn mX11_runs := ⟨by decide, by decide⟩
theorem pn_X11_runsTold : zpn mX11_runsTold := ⟨by decide, by decide⟩
theorem pn_X11_woolOf : zpn mX11_woolOf := ⟨by decide, by decide⟩
theorem pn_X11_wool : zpn mX11_wool := ⟨by decide, by decide⟩
theorem pn_X11_diesOf : zpn mX11_diesOf := ⟨by decide, by decide⟩
theorem pn_X11_dies : zpn mX11_dies := ⟨by decide, by decide⟩
theorem pn_X11_clothOf : zpn mX11_clothOf := ⟨by decide, by decide⟩
theorem pn_X11_cloth : zpn mX11_cloth := ⟨by decide, by decide⟩
theorem pn_X11_thornOf : zpn mX11_thornOf := ⟨by decide, by decide⟩
theorem pn_X11_thorn : zpn mX11_thorn := ⟨by decide, by decide⟩
theorem pn_X11_taxOf : zpn mX11_taxOf := ⟨by decide, by decide⟩
theorem pn_X11_tax : zpn mX11_tax := ⟨by decide, by decide⟩
theorem pn_X11_heaviestOf : zpn mX11_heaviestOf := ⟨by decide, by decide⟩
theorem pn_X11_heaviest : zpn mX11_heaviest := ⟨by decide, by decide⟩
theorem pn_X11_firstOf : zpn mX11_firstOf := ⟨by decide, by decide⟩
theorem pn_X11_first : zpn mX11_first := ⟨by decide, by decide⟩
theorem pn_X11_worthAll : zpn mX11_worthAll := ⟨by decide, by decide⟩
theorem pn_X11_planOf : zpn mX11_planOf := ⟨by decide, by decide⟩
theorem pn_X11_plan : zpn mX11_plan := ⟨by decide, by decide⟩
theorem pn_X11_ofRow : zpn mX11_ofRow := ⟨by decide, by decide⟩
theorem pn_X11_isLight : zpn mX11_isLight := ⟨by decide, by decide⟩
theorem pn_X11_lightBy : zpn mX11_lightBy := ⟨by decide, by decide⟩
theorem pn_X11_light : zpn mX11_light := ⟨by decide, by decide⟩
theorem pn_X11_livesMany : zpn mX11_livesMany := ⟨by decide, by decide⟩
theorem pn_X11_isSpared : zpn mX11_isSpared := ⟨by decide, by decide⟩
theorem pn_X11_spareBy : zpn mX11_spareBy := ⟨by decide, by decide⟩
theorem pn_X11_spare : zpn mX11_spare := ⟨by decide, by decide⟩
theorem pn_X11_homeOf : zpn mX11_homeOf := ⟨by decide, by decide⟩
theorem pn_X11_home : zpn mX11_home := ⟨by decide, by decide⟩
theorem pn_X11_seen : zpn mX11_seen := ⟨by decide, by decide⟩
theorem pn_X11_forget : zpn mX11_forget := ⟨by decide, by decide⟩
theorem pn_X11_isSeen : zpn mX11_isSeen := ⟨by decide, by decide⟩
theorem pn_X11_neverNow : zpn mX11_neverNow := ⟨by decide, by decide⟩
theorem pn_X11_never : zpn mX11_never := ⟨by decide, by decide⟩
theorem pn_X11_wasOf : zpn mX11_wasOf := ⟨by decide, by decide⟩
theorem pn_X11_was : zpn mX11_was := ⟨by decide, by decide⟩
theorem pn_X11_askOf : zpn mX11_askOf := ⟨by decide, by decide⟩
theorem pn_X11_ask : zpn mX11_ask := ⟨by decide, by decide⟩
theorem pn_X11_virtueOf : zpn mX11_virtueOf := ⟨by decide, by decide⟩
theorem pn_X11_virtue : zpn mX11_virtue := ⟨by decide, by decide⟩
theorem pn_X11_yearsOf : zpn mX11_yearsOf := ⟨by decide, by decide⟩
theorem pn_X11_years : zpn mX11_years := ⟨by decide, by decide⟩
theorem pn_X11_meets : zpn mX11_meets := ⟨by decide, by decide⟩
theorem pn_X11_isSheet : zpn mX11_isSheet := ⟨by decide, by decide⟩
theorem pn_X11_sheet : zpn mX11_sheet := ⟨by decide, by decide⟩
theorem pn_X11_lose : zpn mX11_lose := ⟨by decide, by decide⟩
theorem pn_X11_lacks : zpn mX11_lacks := ⟨by decide, by decide⟩
theorem pn_X11_keep : zpn mX11_keep := ⟨by decide, by decide⟩
theorem pn_X11_put : zpn mX11_put := ⟨by decide, by decide⟩
theorem pn_X11_get : zpn mX11_get := ⟨by decide, by decide⟩
theorem pn_X11_copy : zpn mX11_copy := ⟨by decide, by decide⟩
theorem pn_X11_write : zpn mX11_write := ⟨by decide, by decide⟩
theorem pn_X11_sumOf : zpn mX11_sumOf := ⟨by decide, by decide⟩
theorem pn_X11_count : zpn mX11_count := ⟨by decide, by decide⟩
theorem pn_X11_monthDigest : zpn mX11_monthDigest := ⟨by decide, by decide⟩
theorem pn_X11_personDigest : zpn mX11_personDigest := ⟨by decide, by decide⟩
theorem pn_X11_deedDigest : zpn mX11_deedDigest := ⟨by decide, by decide⟩
theorem pn_X11_countyDigest : zpn mX11_countyDigest := ⟨by decide, by decide⟩
theorem pn_X11_thornDigest : zpn mX11_thornDigest := ⟨by decide, by decide⟩
theorem pn_X11_digest : zpn mX11_digest := ⟨by decide, by decide⟩
theorem pn_J6_bitCount_0f7a4 : zpn mJ6_bitCount_0f7a4 := ⟨by decide, by decide⟩
theorem pn_J0_length_8abf5 : zpn mJ0_length_8abf5 := ⟨by decide, by decide⟩
theorem pn_J0_indexOf_0f7a4 : zpn mJ0_indexOf_0f7a4 := ⟨by decide, by decide⟩
theorem pn_J0_indexOf_7cf53 : zpn mJ0_indexOf_7cf53 := ⟨by decide, by decide⟩
theorem pn_J0_coder_7d493 : zpn mJ0_coder_7d493 := ⟨by decide, by decide⟩
theorem pn_J0_isLatin1_aae02 : zpn mJ0_isLatin1_aae02 := ⟨by decide, by decide⟩
theorem pn_J1_canEncode_9a6ad : zpn mJ1_canEncode_9a6ad := ⟨by decide, by decide⟩
theorem pn_J1_indexOf_4cfef : zpn mJ1_indexOf_4cfef := ⟨by decide, by decide⟩
theorem pn_J1_indexOfChar_4cfef : zpn mJ1_indexOfChar_4cfef := ⟨by decide, by decide⟩
theorem pn_J7_fill_d0a16 : zpn mJ7_fill_d0a16 := ⟨by decide, by decide⟩
theorem pn_J7_fill_53178 : zpn mJ7_fill_53178 := ⟨by decide, by decide⟩
theorem fl_X0_9 : zfl RX0 9 0 1 := ⟨RX0, TX0, 6, tyX0, zcls0, by decide, zme 2 55 (by decide +kernel) rfl⟩
theorem fl_X0_15 : zfl RX0 15 0 2 := ⟨RX0, TX0, 6, tyX0, zcls0, by decide, zme 2 56 (by decide +kernel) rfl⟩
theorem fl_X0_18 : zfl RX0 18 0 3 := ⟨RX0, TX0, 6, tyX0, zcls0, by decide, zme 2 57 (by decide +kernel) rfl⟩
theorem fl_X0_22 : zfl RX0 22 0 4 := ⟨RX0, TX0, 6, tyX0, zcls0, by decide, zme 2 58 (by decide +kernel) rfl⟩
theorem fl_X0_25 : zfl RX0 25 0 5 := ⟨RX0, TX0, 6, tyX0, zcls0, by decide, zme 2 59 (by decide +kernel) rfl⟩
theorem fl_X0_28 : zfl RX0 28 0 0 := ⟨RX0, TX0, 6, tyX0, zcls0, by decide, zme 2 54 (by decide +kernel) rfl⟩
theorem fl_X0_32 : zfl RX0 32 3 0 := ⟨RX3, TX3, 3, tyX3, zcls3, by decide, zme 1 187 (by decide +kernel) rfl⟩
theorem fl_X0_38 : zfl RX0 38 8 2 := ⟨RX8, TX8, 7, tyX8, zcls8, by decide, zme 1 117 (by decide +kernel) rfl⟩
theorem fl_X0_73 : zfl RX0 73 3 2 := ⟨RX3, TX3, 3, tyX3, zcls3, by decide, zme 1 195 (by decide +kernel) rfl⟩
theorem fl_X0_88 : zfl RX0 88 3 1 := ⟨RX3, TX3, 3, tyX3, zcls3, by decide, zme 1 191 (by decide +kernel) rfl⟩
theorem fl_X0_91 : zfl RX0 91 8 4 := ⟨RX8, TX8, 7, tyX8, zcls8, by decide, zme 1 124 (by decide +kernel) rfl⟩
theorem fl_X0_94 : zfl RX0 94 5 3 := ⟨RX5, TX5, 4, tyX5, zcls5, by decide, zme 1 91 (by decide +kernel) rfl⟩
theorem fl_X0_106 : zfl RX0 106 8 1 := ⟨RX8, TX8, 7, tyX8, zcls8, by decide, zme 1 113 (by decide +kernel) rfl⟩
theorem fl_X0_109 : zfl RX0 109 8 0 := ⟨RX8, TX8, 7, tyX8, zcls8, by decide, zme 1 107 (by decide +kernel) rfl⟩
theorem fl_X1_9 : zfl RX1 9 1 0 := ⟨RX1, TX1, 2, tyX1, zcls1, by decide, zme 1 216 (by decide +kernel) rfl⟩
theorem fl_X1_15 : zfl RX1 15 1 1 := ⟨RX1, TX1, 2, tyX1, zcls1, by decide, zme 1 217 (by decide +kernel) rfl⟩
theorem fl_X10_20 : zfl RX10 20 10 0 := ⟨RX10, TX10, 10, tyX10, zcls10, by decide, zme 2 97 (by decide +kernel) rfl⟩
theorem fl_X10_30 : zfl RX10 30 10 1 := ⟨RX10, TX10, 10, tyX10, zcls10, by decide, zme 2 98 (by decide +kernel) rfl⟩
theorem fl_X10_36 : zfl RX10 36 10 2 := ⟨RX10, TX10, 10, tyX10, zcls10, by decide, zme 2 99 (by decide +kernel) rfl⟩
theorem fl_X10_45 : zfl RX10 45 10 3 := ⟨RX10, TX10, 10, tyX10, zcls10, by decide, zme 2 100 (by decide +kernel) rfl⟩
theorem fl_X10_52 : zfl RX10 52 10 4 := ⟨RX10, TX10, 10, tyX10, zcls10, by decide, zme 2 101 (by decide +kernel) rfl⟩
theorem fl_X10_61 : zfl RX10 61 10 5 := ⟨RX10, TX10, 10, tyX10, zcls10, by decide, zme 2 102 (by decide +kernel) rfl⟩
theorem fl_X10_68 : zfl RX10 68 10 6 := ⟨RX10, TX10, 10, tyX10, zcls10, by decide, zme 2 103 (by decide +kernel) rfl⟩
theorem fl_X10_75 : zfl RX10 75 10 7 := ⟨RX10, TX10, 10, tyX10, zcls10, by decide, zme 2 104 (by decide +kernel) rfl⟩
theorem fl_X10_82 : zfl RX10 82 10 8 := ⟨RX10, TX10, 10, tyX10, zcls10, by decide, zme 2 105 (by decide +kernel) rfl⟩
theorem fl_X10_86 : zfl RX10 86 10 9 := ⟨RX10, TX10, 10, tyX10, zcls10, by decide, zme 2 106 (by decide +kernel) rfl⟩
theorem fl_X10_105 : zfl RX10 105 7 4 := ⟨RX7, TX7, 5, tyX7, zcls7, by decide, zme 1 47 (by decide +kernel) rfl⟩
theorem fl_X10_117 : zfl RX10 117 8 0 := ⟨RX8, TX8, 7, tyX8, zcls8, by decide, zme 1 106 (by decide +kernel) rfl⟩
theorem fl_X10_130 : zfl RX10 130 8 1 := ⟨RX8, TX8, 7, tyX8, zcls8, by decide, zme 1 112 (by decide +kernel) rfl⟩
theorem fl_X10_133 : zfl RX10 133 8 5 := ⟨RX8, TX8, 7, tyX8, zcls8, by decide, zme 1 128 (by decide +kernel) rfl⟩
theorem fl_X10_136 : zfl RX10 136 8 6 := ⟨RX8, TX8, 7, tyX8, zcls8, by decide, zme 1 130 (by decide +kernel) rfl⟩
theorem fl_X10_148 : zfl RX10 148 8 2 := ⟨RX8, TX8, 7, tyX8, zcls8, by decide, zme 1 118 (by decide +kernel) rfl⟩
theorem fl_X10_151 : zfl RX10 151 5 3 := ⟨RX5, TX5, 4, tyX5, zcls5, by decide, zme 1 92 (by decide +kernel) rfl⟩
theorem fl_X10_157 : zfl RX10 157 8 3 := ⟨RX8, TX8, 7, tyX8, zcls8, by decide, zme 1 121 (by decide +kernel) rfl⟩
theorem fl_X10_160 : zfl RX10 160 8 4 := ⟨RX8, TX8, 7, tyX8, zcls8, by decide, zme 1 125 (by decide +kernel) rfl⟩
theorem fl_X10_195 : zfl RX10 195 2 4 := ⟨RX2, TX2, 6, tyX2, zcls2, by decide, zme 1 158 (by decide +kernel) rfl⟩
theorem fl_X10_198 : zfl RX10 198 2 5 := ⟨RX2, TX2, 6, tyX2, zcls2, by decide, zme 1 160 (by decide +kernel) rfl⟩
theorem fl_X10_205 : zfl RX10 205 4 5 := ⟨RX4, TX4, 11, tyX4, zcls4, by decide, zme 1 229 (by decide +kernel) rfl⟩
theorem fl_X10_208 : zfl RX10 208 4 6 := ⟨RX4, TX4, 11, tyX4, zcls4, by decide, zme 1 231 (by decide +kernel) rfl⟩
theorem fl_X10_211 : zfl RX10 211 4 7 := ⟨RX4, TX4, 11, tyX4, zcls4, by decide, zme 1 233 (by decide +kernel) rfl⟩
theorem fl_X10_223 : zfl RX10 223 4 9 := ⟨RX4, TX4, 11, tyX4, zcls4, by decide, zme 1 236 (by decide +kernel) rfl⟩
theorem fl_X10_226 : zfl RX10 226 4 10 := ⟨RX4, TX4, 11, tyX4, zcls4, by decide, zme 1 238 (by decide +kernel) rfl⟩
theorem fl_X10_229 : zfl RX10 229 9 0 := ⟨RX9, TX9, 5, tyX9, zcls9, by decide, zme 2 31 (by decide +kernel) rfl⟩
theorem fl_X10_236 : zfl RX10 236 9 1 := ⟨RX9, TX9, 5, tyX9, zcls9, by decide, zme 2 33 (by decide +kernel) rfl⟩
theorem fl_X10_263 : zfl RX10 263 3 2 := ⟨RX3, TX3, 3, tyX3, zcls3, by decide, zme 1 196 (by decide +kernel) rfl⟩
theorem fl_X10_302 : zfl RX10 302 6 3 := ⟨RX6, TX6, 4, tyX6, zcls6, by decide, zme 2 87 (by decide +kernel) rfl⟩
theorem fl_X11_7 : zfl RX11 7 11 0 := ⟨RX11, TX11, 56, tyX11, zcls11, by decide, zme 5 38 (by decide +kernel) rfl⟩
theorem fl_X11_13 : zfl RX11 13 11 1 := ⟨RX11, TX11, 56, tyX11, zcls11, by decide, zme 5 39 (by decide +kernel) rfl⟩
theorem fl_X11_16 : zfl RX11 16 11 3 := ⟨RX11, TX11, 56, tyX11, zcls11, by decide, zme 5 41 (by decide +kernel) rfl⟩
theorem fl_X11_19 : zfl RX11 19 11 4 := ⟨RX11, TX11, 56, tyX11, zcls11, by decide, zme 5 42 (by decide +kernel) rfl⟩
theorem fl_X11_22 : zfl RX11 22 11 5 := ⟨RX11, TX11, 56, tyX11, zcls11, by decide, zme 5 43 (by decide +kernel) rfl⟩
theorem fl_X11_25 : zfl RX11 25 11 7 := ⟨RX11, TX11, 56, tyX11, zcls11, by decide, zme 5 45 (by decide +kernel) rfl⟩
theorem fl_X11_28 : zfl RX11 28 11 8 := ⟨RX11, TX11, 56, tyX11, zcls11, by decide, zme 5 46 (by decide +kernel) rfl⟩
theorem fl_X11_31 : zfl RX11 31 11 9 := ⟨RX11, TX11, 56, tyX11, zcls11, by decide, zme 5 47 (by decide +kernel) rfl⟩
theorem fl_X11_34 : zfl RX11 34 11 13 := ⟨RX11, TX11, 56, tyX11, zcls11, by decide, zme 5 51 (by decide +kernel) rfl⟩
theorem fl_X11_37 : zfl RX11 37 11 14 := ⟨RX11, TX11, 56, tyX11, zcls11, by decide, zme 5 52 (by decide +kernel) rfl⟩
theorem fl_X11_40 : zfl RX11 40 11 15 := ⟨RX11, TX11, 56, tyX11, zcls11, by decide, zme 5 53 (by decide +kernel) rfl⟩
theorem fl_X11_43 : zfl RX11 43 11 17 := ⟨RX11, TX11, 56, tyX11, zcls11, by decide, zme 5 55 (by decide +kernel) rfl⟩
theorem fl_X11_46 : zfl RX11 46 11 18 := ⟨RX11, TX11, 56, tyX11, zcls11, by decide, zme 5 56 (by decide +kernel) rfl⟩
theorem fl_X11_49 : zfl RX11 49 11 19 := ⟨RX11, TX11, 56, tyX11, zcls11, by decide, zme 5 57 (by decide +kernel) rfl⟩
theorem fl_X11_52 : zfl RX11 52 11 21 := ⟨RX11, TX11, 56, tyX11, zcls11, by decide, zme 5 59 (by decide +kernel) rfl⟩
theorem fl_X11_55 : zfl RX11 55 11 25 := ⟨RX11, TX11, 56, tyX11, zcls11, by decide, zme 5 63 (by decide +kernel) rfl⟩
theorem fl_X11_58 : zfl RX11 58 11 26 := ⟨RX11, TX11, 56, tyX11, zcls11, by decide, zme 5 64 (by decide +kernel) rfl⟩
theorem fl_X11_61 : zfl RX11 61 11 27 := ⟨RX11, TX11, 56, tyX11, zcls11, by decide, zme 5 65 (by decide +kernel) rfl⟩
theorem fl_X11_64 : zfl RX11 64 11 28 := ⟨RX11, TX11, 56, tyX11, zcls11, by decide, zme 5 66 (by decide +kernel) rfl⟩
theorem fl_X11_67 : zfl RX11 67 11 29 := ⟨RX11, TX11, 56, tyX11, zcls11, by decide, zme 5 67 (by decide +kernel) rfl⟩
theorem fl_X11_70 : zfl RX11 70 11 34 := ⟨RX11, TX11, 56, tyX11, zcls11, by decide, zme 5 72 (by decide +kernel) rfl⟩
theorem fl_X11_73 : zfl RX11 73 11 35 := ⟨RX11, TX11, 56, tyX11, zcls11, by decide, zme 5 73 (by decide +kernel) rfl⟩
theorem fl_X11_76 : zfl RX11 76 11 36 := ⟨RX11, TX11, 56, tyX11, zcls11, by decide, zme 5 74 (by decide +kernel) rfl⟩
theorem fl_X11_79 : zfl RX11 79 11 37 := ⟨RX11, TX11, 56, tyX11, zcls11, by decide, zme 5 75 (by decide +kernel) rfl⟩
theorem fl_X11_82 : zfl RX11 82 11 38 := ⟨RX11, TX11, 56, tyX11, zcls11, by decide, zme 5 76 (by decide +kernel) rfl⟩
theorem fl_X11_85 : zfl RX11 85 11 39 := ⟨RX11, TX11, 56, tyX11, zcls11, by decide, zme 5 77 (by decide +kernel) rfl⟩
theorem fl_X11_88 : zfl RX11 88 11 40 := ⟨RX11, TX11, 56, tyX11, zcls11, by decide, zme 5 78 (by decide +kernel) rfl⟩
theorem fl_X11_91 : zfl RX11 91 11 41 := ⟨RX11, TX11, 56, tyX11, zcls11, by decide, zme 5 79 (by decide +kernel) rfl⟩
theorem fl_X11_94 : zfl RX11 94 11 42 := ⟨RX11, TX11, 56, tyX11, zcls11, by decide, zme 5 80 (by decide +kernel) rfl⟩
theorem fl_X11_97 : zfl RX11 97 11 43 := ⟨RX11, TX11, 56, tyX11, zcls11, by decide, zme 5 81 (by decide +kernel) rfl⟩
theorem fl_X11_100 : zfl RX11 100 11 44 := ⟨RX11, TX11, 56, tyX11, zcls11, by decide, zme 5 82 (by decide +kernel) rfl⟩
theorem fl_X11_103 : zfl RX11 103 11 46 := ⟨RX11, TX11, 56, tyX11, zcls11, by decide, zme 5 84 (by decide +kernel) rfl⟩
theorem fl_X11_106 : zfl RX11 106 11 47 := ⟨RX11, TX11, 56, tyX11, zcls11, by decide, zme 5 85 (by decide +kernel) rfl⟩
theorem fl_X11_109 : zfl RX11 109 11 48 := ⟨RX11, TX11, 56, tyX11, zcls11, by decide, zme 5 86 (by decide +kernel) rfl⟩
theorem fl_X11_112 : zfl RX11 112 11 49 := ⟨RX11, TX11, 56, tyX11, zcls11, by decide, zme 5 87 (by decide +kernel) rfl⟩
theorem fl_X11_115 : zfl RX11 115 11 50 := ⟨RX11, TX11, 56, tyX11, zcls11, by decide, zme 5 88 (by decide +kernel) rfl⟩
theorem fl_X11_119 : zfl RX11 119 11 51 := ⟨RX11, TX11, 56, tyX11, zcls11, by decide, zme 5 89 (by decide +kernel) rfl⟩
theorem fl_X11_122 : zfl RX11 122 11 52 := ⟨RX11, TX11, 56, tyX11, zcls11, by decide, zme 5 90 (by decide +kernel) rfl⟩
theorem fl_X11_125 : zfl RX11 125 11 53 := ⟨RX11, TX11, 56, tyX11, zcls11, by decide, zme 5 91 (by decide +kernel) rfl⟩
theorem fl_X11_128 : zfl RX11 128 11 54 := ⟨RX11, TX11, 56, tyX11, zcls11, by decide, zme 5 92 (by decide +kernel) rfl⟩
theorem fl_X11_131 : zfl RX11 131 11 10 := ⟨RX11, TX11, 56, tyX11, zcls11, by decide, zme 5 48 (by decide +kernel) rfl⟩
theorem fl_X11_135 : zfl RX11 135 11 11 := ⟨RX11, TX11, 56, tyX11, zcls11, by decide, zme 5 49 (by decide +kernel) rfl⟩
theorem fl_X11_152 : zfl RX11 152 11 2 := ⟨RX11, TX11, 56, tyX11, zcls11, by decide, zme 5 40 (by decide +kernel) rfl⟩
theorem fl_X11_155 : zfl RX11 155 11 6 := ⟨RX11, TX11, 56, tyX11, zcls11, by decide, zme 5 44 (by decide +kernel) rfl⟩
theorem fl_X11_192 : zfl RX11 192 11 12 := ⟨RX11, TX11, 56, tyX11, zcls11, by decide, zme 5 50 (by decide +kernel) rfl⟩
theorem fl_X11_195 : zfl RX11 195 11 16 := ⟨RX11, TX11, 56, tyX11, zcls11, by decide, zme 5 54 (by decide +kernel) rfl⟩
theorem fl_X11_198 : zfl RX11 198 11 20 := ⟨RX11, TX11, 56, tyX11, zcls11, by decide, zme 5 58 (by decide +kernel) rfl⟩
theorem fl_X11_211 : zfl RX11 211 11 22 := ⟨RX11, TX11, 56, tyX11, zcls11, by decide, zme 5 60 (by decide +kernel) rfl⟩
theorem fl_X11_214 : zfl RX11 214 11 23 := ⟨RX11, TX11, 56, tyX11, zcls11, by decide, zme 5 61 (by decide +kernel) rfl⟩
theorem fl_X11_217 : zfl RX11 217 11 24 := ⟨RX11, TX11, 56, tyX11, zcls11, by decide, zme 5 62 (by decide +kernel) rfl⟩
theorem fl_X11_220 : zfl RX11 220 11 30 := ⟨RX11, TX11, 56, tyX11, zcls11, by decide, zme 5 68 (by decide +kernel) rfl⟩
theorem fl_X11_233 : zfl RX11 233 11 31 := ⟨RX11, TX11, 56, tyX11, zcls11, by decide, zme 5 69 (by decide +kernel) rfl⟩
theorem fl_X11_236 : zfl RX11 236 11 32 := ⟨RX11, TX11, 56, tyX11, zcls11, by decide, zme 5 70 (by decide +kernel) rfl⟩
theorem fl_X11_239 : zfl RX11 239 11 33 := ⟨RX11, TX11, 56, tyX11, zcls11, by decide, zme 5 71 (by decide +kernel) rfl⟩
theorem fl_X11_323 : zfl RX11 323 11 45 := ⟨RX11, TX11, 56, tyX11, zcls11, by decide, zme 5 83 (by decide +kernel) rfl⟩
theorem fl_X11_355 : zfl RX11 355 11 55 := ⟨RX11, TX11, 56, tyX11, zcls11, by decide, zme 5 93 (by decide +kernel) rfl⟩
theorem fl_X2_9 : zfl RX2 9 2 1 := ⟨RX2, TX2, 6, tyX2, zcls2, by decide, zme 1 154 (by decide +kernel) rfl⟩
theorem fl_X2_15 : zfl RX2 15 2 2 := ⟨RX2, TX2, 6, tyX2, zcls2, by decide, zme 1 155 (by decide +kernel) rfl⟩
theorem fl_X2_18 : zfl RX2 18 2 3 := ⟨RX2, TX2, 6, tyX2, zcls2, by decide, zme 1 156 (by decide +kernel) rfl⟩
theorem fl_X2_21 : zfl RX2 21 2 4 := ⟨RX2, TX2, 6, tyX2, zcls2, by decide, zme 1 157 (by decide +kernel) rfl⟩
theorem fl_X2_28 : zfl RX2 28 2 0 := ⟨RX2, TX2, 6, tyX2, zcls2, by decide, zme 1 153 (by decide +kernel) rfl⟩
theorem fl_X2_35 : zfl RX2 35 8 1 := ⟨RX8, TX8, 7, tyX8, zcls8, by decide, zme 1 109 (by decide +kernel) rfl⟩
theorem fl_X2_45 : zfl RX2 45 8 3 := ⟨RX8, TX8, 7, tyX8, zcls8, by decide, zme 1 120 (by decide +kernel) rfl⟩
theorem fl_X2_48 : zfl RX2 48 8 2 := ⟨RX8, TX8, 7, tyX8, zcls8, by decide, zme 1 115 (by decide +kernel) rfl⟩
theorem fl_X2_51 : zfl RX2 51 8 4 := ⟨RX8, TX8, 7, tyX8, zcls8, by decide, zme 1 123 (by decide +kernel) rfl⟩
theorem fl_X2_81 : zfl RX2 81 8 0 := ⟨RX8, TX8, 7, tyX8, zcls8, by decide, zme 1 103 (by decide +kernel) rfl⟩
theorem fl_X2_84 : zfl RX2 84 5 3 := ⟨RX5, TX5, 4, tyX5, zcls5, by decide, zme 1 88 (by decide +kernel) rfl⟩
theorem fl_X2_89 : zfl RX2 89 5 1 := ⟨RX5, TX5, 4, tyX5, zcls5, by decide, zme 1 81 (by decide +kernel) rfl⟩
theorem fl_X2_92 : zfl RX2 92 5 2 := ⟨RX5, TX5, 4, tyX5, zcls5, by decide, zme 1 84 (by decide +kernel) rfl⟩
theorem fl_X2_95 : zfl RX2 95 5 0 := ⟨RX5, TX5, 4, tyX5, zcls5, by decide, zme 1 78 (by decide +kernel) rfl⟩
theorem fl_X2_106 : zfl RX2 106 8 5 := ⟨RX8, TX8, 7, tyX8, zcls8, by decide, zme 1 127 (by decide +kernel) rfl⟩
theorem fl_X2_121 : zfl RX2 121 8 6 := ⟨RX8, TX8, 7, tyX8, zcls8, by decide, zme 1 131 (by decide +kernel) rfl⟩
theorem fl_X3_10 : zfl RX3 10 3 1 := ⟨RX3, TX3, 3, tyX3, zcls3, by decide, zme 1 188 (by decide +kernel) rfl⟩
theorem fl_X3_25 : zfl RX3 25 3 0 := ⟨RX3, TX3, 3, tyX3, zcls3, by decide, zme 1 184 (by decide +kernel) rfl⟩
theorem fl_X4_12 : zfl RX4 12 4 1 := ⟨RX4, TX4, 11, tyX4, zcls4, by decide, zme 1 224 (by decide +kernel) rfl⟩
theorem fl_X4_18 : zfl RX4 18 4 2 := ⟨RX4, TX4, 11, tyX4, zcls4, by decide, zme 1 225 (by decide +kernel) rfl⟩
theorem fl_X4_22 : zfl RX4 22 4 3 := ⟨RX4, TX4, 11, tyX4, zcls4, by decide, zme 1 226 (by decide +kernel) rfl⟩
theorem fl_X4_26 : zfl RX4 26 4 4 := ⟨RX4, TX4, 11, tyX4, zcls4, by decide, zme 1 227 (by decide +kernel) rfl⟩
theorem fl_X4_35 : zfl RX4 35 4 7 := ⟨RX4, TX4, 11, tyX4, zcls4, by decide, zme 1 232 (by decide +kernel) rfl⟩
theorem fl_X4_38 : zfl RX4 38 4 8 := ⟨RX4, TX4, 11, tyX4, zcls4, by decide, zme 1 234 (by decide +kernel) rfl⟩
theorem fl_X4_44 : zfl RX4 44 4 10 := ⟨RX4, TX4, 11, tyX4, zcls4, by decide, zme 1 237 (by decide +kernel) rfl⟩
theorem fl_X4_47 : zfl RX4 47 4 0 := ⟨RX4, TX4, 11, tyX4, zcls4, by decide, zme 1 223 (by decide +kernel) rfl⟩
theorem fl_X4_56 : zfl RX4 56 3 1 := ⟨RX3, TX3, 3, tyX3, zcls3, by decide, zme 1 189 (by decide +kernel) rfl⟩
theorem fl_X4_60 : zfl RX4 60 8 2 := ⟨RX8, TX8, 7, tyX8, zcls8, by decide, zme 1 116 (by decide +kernel) rfl⟩
theorem fl_X4_72 : zfl RX4 72 3 2 := ⟨RX3, TX3, 3, tyX3, zcls3, by decide, zme 1 193 (by decide +kernel) rfl⟩
theorem fl_X4_89 : zfl RX4 89 8 1 := ⟨RX8, TX8, 7, tyX8, zcls8, by decide, zme 1 111 (by decide +kernel) rfl⟩
theorem fl_X4_103 : zfl RX4 103 3 0 := ⟨RX3, TX3, 3, tyX3, zcls3, by decide, zme 1 186 (by decide +kernel) rfl⟩
theorem fl_X4_106 : zfl RX4 106 5 3 := ⟨RX5, TX5, 4, tyX5, zcls5, by decide, zme 1 90 (by decide +kernel) rfl⟩
theorem fl_X4_113 : zfl RX4 113 8 0 := ⟨RX8, TX8, 7, tyX8, zcls8, by decide, zme 1 105 (by decide +kernel) rfl⟩
theorem fl_X5_9 : zfl RX5 9 5 3 := ⟨RX5, TX5, 4, tyX5, zcls5, by decide, zme 1 86 (by decide +kernel) rfl⟩
theorem fl_X5_21 : zfl RX5 21 5 0 := ⟨RX5, TX5, 4, tyX5, zcls5, by decide, zme 1 77 (by decide +kernel) rfl⟩
theorem fl_X5_25 : zfl RX5 25 5 1 := ⟨RX5, TX5, 4, tyX5, zcls5, by decide, zme 1 80 (by decide +kernel) rfl⟩
theorem fl_X5_28 : zfl RX5 28 5 2 := ⟨RX5, TX5, 4, tyX5, zcls5, by decide, zme 1 83 (by decide +kernel) rfl⟩
theorem fl_X6_9 : zfl RX6 9 6 0 := ⟨RX6, TX6, 4, tyX6, zcls6, by decide, zme 2 83 (by decide +kernel) rfl⟩
theorem fl_X6_15 : zfl RX6 15 6 1 := ⟨RX6, TX6, 4, tyX6, zcls6, by decide, zme 2 84 (by decide +kernel) rfl⟩
theorem fl_X6_18 : zfl RX6 18 6 2 := ⟨RX6, TX6, 4, tyX6, zcls6, by decide, zme 2 85 (by decide +kernel) rfl⟩
theorem fl_X7_9 : zfl RX7 9 7 4 := ⟨RX7, TX7, 5, tyX7, zcls7, by decide, zme 1 46 (by decide +kernel) rfl⟩
theorem fl_X7_21 : zfl RX7 21 7 0 := ⟨RX7, TX7, 5, tyX7, zcls7, by decide, zme 1 42 (by decide +kernel) rfl⟩
theorem fl_X7_25 : zfl RX7 25 7 1 := ⟨RX7, TX7, 5, tyX7, zcls7, by decide, zme 1 43 (by decide +kernel) rfl⟩
theorem fl_X7_29 : zfl RX7 29 7 2 := ⟨RX7, TX7, 5, tyX7, zcls7, by decide, zme 1 44 (by decide +kernel) rfl⟩
theorem fl_X7_32 : zfl RX7 32 7 3 := ⟨RX7, TX7, 5, tyX7, zcls7, by decide, zme 1 45 (by decide +kernel) rfl⟩
theorem fl_X8_14 : zfl RX8 14 8 0 := ⟨RX8, TX8, 7, tyX8, zcls8, by decide, zme 1 102 (by decide +kernel) rfl⟩
theorem fl_X8_20 : zfl RX8 20 8 1 := ⟨RX8, TX8, 7, tyX8, zcls8, by decide, zme 1 108 (by decide +kernel) rfl⟩
theorem fl_X8_23 : zfl RX8 23 8 2 := ⟨RX8, TX8, 7, tyX8, zcls8, by decide, zme 1 114 (by decide +kernel) rfl⟩
theorem fl_X8_26 : zfl RX8 26 8 3 := ⟨RX8, TX8, 7, tyX8, zcls8, by decide, zme 1 119 (by decide +kernel) rfl⟩
theorem fl_X8_29 : zfl RX8 29 8 4 := ⟨RX8, TX8, 7, tyX8, zcls8, by decide, zme 1 122 (by decide +kernel) rfl⟩
theorem fl_X8_32 : zfl RX8 32 8 5 := ⟨RX8, TX8, 7, tyX8, zcls8, by decide, zme 1 126 (by decide +kernel) rfl⟩
theorem fl_X8_36 : zfl RX8 36 8 6 := ⟨RX8, TX8, 7, tyX8, zcls8, by decide, zme 1 129 (by decide +kernel) rfl⟩
theorem fl_X9_14 : zfl RX9 14 9 0 := ⟨RX9, TX9, 5, tyX9, zcls9, by decide, zme 2 30 (by decide +kernel) rfl⟩
theorem fl_X9_20 : zfl RX9 20 9 1 := ⟨RX9, TX9, 5, tyX9, zcls9, by decide, zme 2 32 (by decide +kernel) rfl⟩
theorem fl_X9_24 : zfl RX9 24 9 3 := ⟨RX9, TX9, 5, tyX9, zcls9, by decide, zme 2 35 (by decide +kernel) rfl⟩
theorem fl_X9_28 : zfl RX9 28 9 4 := ⟨RX9, TX9, 5, tyX9, zcls9, by decide, zme 2 36 (by decide +kernel) rfl⟩
theorem fl_X9_32 : zfl RX9 32 9 2 := ⟨RX9, TX9, 5, tyX9, zcls9, by decide, zme 2 34 (by decide +kernel) rfl⟩
theorem fl_X9_36 : zfl RX9 36 3 0 := ⟨RX3, TX3, 3, tyX3, zcls3, by decide, zme 1 185 (by decide +kernel) rfl⟩
theorem fl_X9_42 : zfl RX9 42 8 1 := ⟨RX8, TX8, 7, tyX8, zcls8, by decide, zme 1 110 (by decide +kernel) rfl⟩
theorem fl_X9_47 : zfl RX9 47 5 3 := ⟨RX5, TX5, 4, tyX5, zcls5, by decide, zme 1 87 (by decide +kernel) rfl⟩
theorem fl_X9_53 : zfl RX9 53 3 1 := ⟨RX3, TX3, 3, tyX3, zcls3, by decide, zme 1 190 (by decide +kernel) rfl⟩
theorem fl_X9_59 : zfl RX9 59 3 2 := ⟨RX3, TX3, 3, tyX3, zcls3, by decide, zme 1 194 (by decide +kernel) rfl⟩
theorem fl_X9_75 : zfl RX9 75 8 0 := ⟨RX8, TX8, 7, tyX8, zcls8, by decide, zme 1 104 (by decide +kernel) rfl⟩
theorem fl_X9_94 : zfl RX9 94 5 0 := ⟨RX5, TX5, 4, tyX5, zcls5, by decide, zme 1 79 (by decide +kernel) rfl⟩
theorem fl_X9_102 : zfl RX9 102 5 1 := ⟨RX5, TX5, 4, tyX5, zcls5, by decide, zme 1 82 (by decide +kernel) rfl⟩
theorem fl_X9_105 : zfl RX9 105 5 2 := ⟨RX5, TX5, 4, tyX5, zcls5, by decide, zme 1 85 (by decide +kernel) rfl⟩
theorem fp_X0_9 : zfp RX0 9 0 1 true (.array .long) := ⟨RX0, TX0, 6, tyX0, zcls0, by decide, zme 2 55 (by decide +kernel) rfl, rfl, by decide, fun _ => rfl⟩
theorem fp_X0_15 : zfp RX0 15 0 2 true (.array .long) := ⟨RX0, TX0, 6, tyX0, zcls0, by decide, zme 2 56 (by decide +kernel) rfl, rfl, by decide, fun _ => rfl⟩
theorem fp_X0_18 : zfp RX0 18 0 3 false .int := ⟨RX0, TX0, 6, tyX0, zcls0, by decide, zme 2 57 (by decide +kernel) rfl, rfl, by decide, fun h => absurd h (by decide)⟩
theorem fp_X0_22 : zfp RX0 22 0 4 false .int := ⟨RX0, TX0, 6, tyX0, zcls0, by decide, zme 2 58 (by decide +kernel) rfl, rfl, by decide, fun h => absurd h (by decide)⟩
theorem fp_X0_25 : zfp RX0 25 0 5 false .int := ⟨RX0, TX0, 6, tyX0, zcls0, by decide, zme 2 59 (by decide +kernel) rfl, rfl, by decide, fun h => absurd h (by decide)⟩
theorem fp_X0_28 : zfp RX0 28 0 0 true (.object "ShornSins$Other") := ⟨RX0, TX0, 6, tyX0, zcls0, by decide, zme 2 54 (by decide +kernel) rfl, rfl, by decide, fun _ => rfl⟩
theorem fp_X0_94 : zfp RX0 94 5 3 false .int := ⟨RX5, TX5, 4, tyX5, zcls5, by decide, zme 1 91 (by decide +kernel) rfl, rfl, by decide, fun h => absurd h (by decide)⟩
theorem fp_X1_9 : zfp RX1 9 1 0 false .int := ⟨RX1, TX1, 2, tyX1, zcls1, by decide, zme 1 216 (by decide +kernel) rfl, rfl, by decide, fun h => absurd h (by decide)⟩
theorem fp_X1_15 : zfp RX1 15 1 1 false .int := ⟨RX1, TX1, 2, tyX1, zcls1, by decide, zme 1 217 (by decide +kernel) rfl, rfl, by decide, fun h => absurd h (by decide)⟩
theorem fp_X10_20 : zfp RX10 20 10 0 true (.object "ShornSins$Text") := ⟨RX10, TX10, 10, tyX10, zcls10, by decide, zme 2 97 (by decide +kernel) rfl, rfl, by decide, fun _ => rfl⟩
theorem fp_X10_30 : zfp RX10 30 10 1 true (.object "ShornSins$Text") := ⟨RX10, TX10, 10, tyX10, zcls10, by decide, zme 2 98 (by decide +kernel) rfl, rfl, by decide, fun _ => rfl⟩
theorem fp_X10_36 : zfp RX10 36 10 2 true (.object "ShornSins$Told") := ⟨RX10, TX10, 10, tyX10, zcls10, by decide, zme 2 99 (by decide +kernel) rfl, rfl, by decide, fun _ => rfl⟩
theorem fp_X10_45 : zfp RX10 45 10 3 true (.object "ShornSins$Course") := ⟨RX10, TX10, 10, tyX10, zcls10, by decide, zme 2 100 (by decide +kernel) rfl, rfl, by decide, fun _ => rfl⟩
theorem fp_X10_52 : zfp RX10 52 10 4 true (.object "ShornSins$Other") := ⟨RX10, TX10, 10, tyX10, zcls10, by decide, zme 2 101 (by decide +kernel) rfl, rfl, by decide, fun _ => rfl⟩
theorem fp_X10_61 : zfp RX10 61 10 5 true (.object "ShornSins$Plans") := ⟨RX10, TX10, 10, tyX10, zcls10, by decide, zme 2 102 (by decide +kernel) rfl, rfl, by decide, fun _ => rfl⟩
theorem fp_X10_68 : zfp RX10 68 10 6 true (.object "ShornSins$Witness") := ⟨RX10, TX10, 10, tyX10, zcls10, by decide, zme 2 103 (by decide +kernel) rfl, rfl, by decide, fun _ => rfl⟩
theorem fp_X10_75 : zfp RX10 75 10 7 true (.object "ShornSins$Chances") := ⟨RX10, TX10, 10, tyX10, zcls10, by decide, zme 2 104 (by decide +kernel) rfl, rfl, by decide, fun _ => rfl⟩
theorem fp_X10_82 : zfp RX10 82 10 8 true (.object "ShornSins$Sheets") := ⟨RX10, TX10, 10, tyX10, zcls10, by decide, zme 2 105 (by decide +kernel) rfl, rfl, by decide, fun _ => rfl⟩
theorem fp_X10_86 : zfp RX10 86 10 9 false .boolean := ⟨RX10, TX10, 10, tyX10, zcls10, by decide, zme 2 106 (by decide +kernel) rfl, rfl, by decide, fun h => absurd h (by decide)⟩
theorem fp_X10_105 : zfp RX10 105 7 4 false .int := ⟨RX7, TX7, 5, tyX7, zcls7, by decide, zme 1 47 (by decide +kernel) rfl, rfl, by decide, fun h => absurd h (by decide)⟩
theorem fp_X10_133 : zfp RX10 133 8 5 false .int := ⟨RX8, TX8, 7, tyX8, zcls8, by decide, zme 1 128 (by decide +kernel) rfl, rfl, by decide, fun h => absurd h (by decide)⟩
theorem fp_X10_136 : zfp RX10 136 8 6 false .int := ⟨RX8, TX8, 7, tyX8, zcls8, by decide, zme 1 130 (by decide +kernel) rfl, rfl, by decide, fun h => absurd h (by decide)⟩
theorem fp_X10_151 : zfp RX10 151 5 3 false .int := ⟨RX5, TX5, 4, tyX5, zcls5, by decide, zme 1 92 (by decide +kernel) rfl, rfl, by decide, fun h => absurd h (by decide)⟩
theorem fp_X11_7 : zfp RX11 7 11 0 true (.array .int) := ⟨RX11, TX11, 56, tyX11, zcls11, by decide, zme 5 38 (by decide +kernel) rfl, rfl, by decide, fun _ => rfl⟩
theorem fp_X11_13 : zfp RX11 13 11 1 true (.array .int) := ⟨RX11, TX11, 56, tyX11, zcls11, by decide, zme 5 39 (by decide +kernel) rfl, rfl, by decide, fun _ => rfl⟩
theorem fp_X11_16 : zfp RX11 16 11 3 true (.array .int) := ⟨RX11, TX11, 56, tyX11, zcls11, by decide, zme 5 41 (by decide +kernel) rfl, rfl, by decide, fun _ => rfl⟩
theorem fp_X11_19 : zfp RX11 19 11 4 true (.array .int) := ⟨RX11, TX11, 56, tyX11, zcls11, by decide, zme 5 42 (by decide +kernel) rfl, rfl, by decide, fun _ => rfl⟩
theorem fp_X11_22 : zfp RX11 22 11 5 true (.array .int) := ⟨RX11, TX11, 56, tyX11, zcls11, by decide, zme 5 43 (by decide +kernel) rfl, rfl, by decide, fun _ => rfl⟩
theorem fp_X11_25 : zfp RX11 25 11 7 true (.array .int) := ⟨RX11, TX11, 56, tyX11, zcls11, by decide, zme 5 45 (by decide +kernel) rfl, rfl, by decide, fun _ => rfl⟩
theorem fp_X11_28 : zfp RX11 28 11 8 true (.array .int) := ⟨RX11, TX11, 56, tyX11, zcls11, by decide, zme 5 46 (by decide +kernel) rfl, rfl, by decide, fun _ => rfl⟩
theorem fp_X11_31 : zfp RX11 31 11 9 true (.array .int) := ⟨RX11, TX11, 56, tyX11, zcls11, by decide, zme 5 47 (by decide +kernel) rfl, rfl, by decide, fun _ => rfl⟩
theorem fp_X11_34 : zfp RX11 34 11 13 true (.array .int) := ⟨RX11, TX11, 56, tyX11, zcls11, by decide, zme 5 51 (by decide +kernel) rfl, rfl, by decide, fun _ => rfl⟩
theorem fp_X11_37 : zfp RX11 37 11 14 true (.array .int) := ⟨RX11, TX11, 56, tyX11, zcls11, by decide, zme 5 52 (by decide +kernel) rfl, rfl, by decide, fun _ => rfl⟩
theorem fp_X11_40 : zfp RX11 40 11 15 true (.array .int) := ⟨RX11, TX11, 56, tyX11, zcls11, by decide, zme 5 53 (by decide +kernel) rfl, rfl, by decide, fun _ => rfl⟩
theorem fp_X11_43 : zfp RX11 43 11 17 true (.array .int) := ⟨RX11, TX11, 56, tyX11, zcls11, by decide, zme 5 55 (by decide +kernel) rfl, rfl, by decide, fun _ => rfl⟩
theorem fp_X11_46 : zfp RX11 46 11 18 true (.array .int) := ⟨RX11, TX11, 56, tyX11, zcls11, by decide, zme 5 56 (by decide +kernel) rfl, rfl, by decide, fun _ => rfl⟩
theorem fp_X11_49 : zfp RX11 49 11 19 true (.array .int) := ⟨RX11, TX11, 56, tyX11, zcls11, by decide, zme 5 57 (by decide +kernel) rfl, rfl, by decide, fun _ => rfl⟩
theorem fp_X11_52 : zfp RX11 52 11 21 true (.array .int) := ⟨RX11, TX11, 56, tyX11, zcls11, by decide, zme 5 59 (by decide +kernel) rfl, rfl, by decide, fun _ => rfl⟩
theorem fp_X11_55 : zfp RX11 55 11 25 true (.array .int) := ⟨RX11, TX11, 56, tyX11, zcls11, by decide, zme 5 63 (by decide +kernel) rfl, rfl, by decide, fun _ => rfl⟩
theorem fp_X11_58 : zfp RX11 58 11 26 true (.array .int) := ⟨RX11, TX11, 56, tyX11, zcls11, by decide, zme 5 64 (by decide +kernel) rfl, rfl, by decide, fun _ => rfl⟩
theorem fp_X11_61 : zfp RX11 61 11 27 true (.array .int) := ⟨RX11, TX11, 56, tyX11, zcls11, by decide, zme 5 65 (by decide +kernel) rfl, rfl, by decide, fun _ => rfl⟩
theorem fp_X11_64 : zfp RX11 64 11 28 true (.array .int) := ⟨RX11, TX11, 56, tyX11, zcls11, by decide, zme 5 66 (by decide +kernel) rfl, rfl, by decide, fun _ => rfl⟩
theorem fp_X11_67 : zfp RX11 67 11 29 true (.array .int) := ⟨RX11, TX11, 56, tyX11, zcls11, by decide, zme 5 67 (by decide +kernel) rfl, rfl, by decide, fun _ => rfl⟩
theorem fp_X11_70 : zfp RX11 70 11 34 true (.array .int) := ⟨RX11, TX11, 56, tyX11, zcls11, by decide, zme 5 72 (by decide +kernel) rfl, rfl, by decide, fun _ => rfl⟩
theorem fp_X11_73 : zfp RX11 73 11 35 true (.array .int) := ⟨RX11, TX11, 56, tyX11, zcls11, by decide, zme 5 73 (by decide +kernel) rfl, rfl, by decide, fun _ => rfl⟩
theorem fp_X11_76 : zfp RX11 76 11 36 true (.array .int) := ⟨RX11, TX11, 56, tyX11, zcls11, by decide, zme 5 74 (by decide +kernel) rfl, rfl, by decide, fun _ => rfl⟩
theorem fp_X11_79 : zfp RX11 79 11 37 true (.array .int) := ⟨RX11, TX11, 56, tyX11, zcls11, by decide, zme 5 75 (by decide +kernel) rfl, rfl, by decide, fun _ => rfl⟩
theorem fp_X11_82 : zfp RX11 82 11 38 true (.array .int) := ⟨RX11, TX11, 56, tyX11, zcls11, by decide, zme 5 76 (by decide +kernel) rfl, rfl, by decide, fun _ => rfl⟩
theorem fp_X11_85 : zfp RX11 85 11 39 true (.array .int) := ⟨RX11, TX11, 56, tyX11, zcls11, by decide, zme 5 77 (by decide +kernel) rfl, rfl, by decide, fun _ => rfl⟩
theorem fp_X11_88 : zfp RX11 88 11 40 true (.array .int) := ⟨RX11, TX11, 56, tyX11, zcls11, by decide, zme 5 78 (by decide +kernel) rfl, rfl, by decide, fun _ => rfl⟩
theorem fp_X11_91 : zfp RX11 91 11 41 true (.array .int) := ⟨RX11, TX11, 56, tyX11, zcls11, by decide, zme 5 79 (by decide +kernel) rfl, rfl, by decide, fun _ => rfl⟩
theorem fp_X11_94 : zfp RX11 94 11 42 true (.array .int) := ⟨RX11, TX11, 56, tyX11, zcls11, by decide, zme 5 80 (by decide +kernel) rfl, rfl, by decide, fun _ => rfl⟩
theorem fp_X11_97 : zfp RX11 97 11 43 true (.array .int) := ⟨RX11, TX11, 56, tyX11, zcls11, by decide, zme 5 81 (by decide +kernel) rfl, rfl, by decide, fun _ => rfl⟩
theorem fp_X11_100 : zfp RX11 100 11 44 true (.array .int) := ⟨RX11, TX11, 56, tyX11, zcls11, by decide, zme 5 82 (by decide +kernel) rfl, rfl, by decide, fun _ => rfl⟩
theorem fp_X11_103 : zfp RX11 103 11 46 true (.array .int) := ⟨RX11, TX11, 56, tyX11, zcls11, by decide, zme 5 84 (by decide +kernel) rfl, rfl, by decide, fun _ => rfl⟩
theorem fp_X11_106 : zfp RX11 106 11 47 true (.array .int) := ⟨RX11, TX11, 56, tyX11, zcls11, by decide, zme 5 85 (by decide +kernel) rfl, rfl, by decide, fun _ => rfl⟩
theorem fp_X11_109 : zfp RX11 109 11 48 true (.array .int) := ⟨RX11, TX11, 56, tyX11, zcls11, by decide, zme 5 86 (by decide +kernel) rfl, rfl, by decide, fun _ => rfl⟩
theorem fp_X11_112 : zfp RX11 112 11 49 true (.array .int) := ⟨RX11, TX11, 56, tyX11, zcls11, by decide, zme 5 87 (by decide +kernel) rfl, rfl, by decide, fun _ => rfl⟩
theorem fp_X11_115 : zfp RX11 115 11 50 true (.array .boolean) := ⟨RX11, TX11, 56, tyX11, zcls11, by decide, zme 5 88 (by decide +kernel) rfl, rfl, by decide, fun _ => rfl⟩
theorem fp_X11_119 : zfp RX11 119 11 51 true (.array .int) := ⟨RX11, TX11, 56, tyX11, zcls11, by decide, zme 5 89 (by decide +kernel) rfl, rfl, by decide, fun _ => rfl⟩
theorem fp_X11_122 : zfp RX11 122 11 52 true (.array .int) := ⟨RX11, TX11, 56, tyX11, zcls11, by decide, zme 5 90 (by decide +kernel) rfl, rfl, by decide, fun _ => rfl⟩
theorem fp_X11_125 : zfp RX11 125 11 53 true (.array .int) := ⟨RX11, TX11, 56, tyX11, zcls11, by decide, zme 5 91 (by decide +kernel) rfl, rfl, by decide, fun _ => rfl⟩
theorem fp_X11_128 : zfp RX11 128 11 54 true (.array .int) := ⟨RX11, TX11, 56, tyX11, zcls11, by decide, zme 5 92 (by decide +kernel) rfl, rfl, by decide, fun _ => rfl⟩
theorem fp_X11_131 : zfp RX11 131 11 10 false .int := ⟨RX11, TX11, 56, tyX11, zcls11, by decide, zme 5 48 (by decide +kernel) rfl, rfl, by decide, fun h => absurd h (by decide)⟩
theorem fp_X11_135 : zfp RX11 135 11 11 false .int := ⟨RX11, TX11, 56, tyX11, zcls11, by decide, zme 5 49 (by decide +kernel) rfl, rfl, by decide, fun h => absurd h (by decide)⟩
theorem fp_X11_152 : zfp RX11 152 11 2 false .int := ⟨RX11, TX11, 56, tyX11, zcls11, by decide, zme 5 40 (by decide +kernel) rfl, rfl, by decide, fun h => absurd h (by decide)⟩
theorem fp_X11_155 : zfp RX11 155 11 6 false .int := ⟨RX11, TX11, 56, tyX11, zcls11, by decide, zme 5 44 (by decide +kernel) rfl, rfl, by decide, fun h => absurd h (by decide)⟩
theorem fp_X11_192 : zfp RX11 192 11 12 false .int := ⟨RX11, TX11, 56, tyX11, zcls11, by decide, zme 5 50 (by decide +kernel) rfl, rfl, by decide, fun h => absurd h (by decide)⟩
theorem fp_X11_195 : zfp RX11 195 11 16 false .int := ⟨RX11, TX11, 56, tyX11, zcls11, by decide, zme 5 54 (by decide +kernel) rfl, rfl, by decide, fun h => absurd h (by decide)⟩
theorem fp_X11_198 : zfp RX11 198 11 20 false .int := ⟨RX11, TX11, 56, tyX11, zcls11, by decide, zme 5 58 (by decide +kernel) rfl, rfl, by decide, fun h => absurd h (by decide)⟩
theorem fp_X11_211 : zfp RX11 211 11 22 false .int := ⟨RX11, TX11, 56, tyX11, zcls11, by decide, zme 5 60 (by decide +kernel) rfl, rfl, by decide, fun h => absurd h (by decide)⟩
theorem fp_X11_214 : zfp RX11 214 11 23 false .int := ⟨RX11, TX11, 56, tyX11, zcls11, by decide, zme 5 61 (by decide +kernel) rfl, rfl, by decide, fun h => absurd h (by decide)⟩
theorem fp_X11_217 : zfp RX11 217 11 24 false .int := ⟨RX11, TX11, 56, tyX11, zcls11, by decide, zme 5 62 (by decide +kernel) rfl, rfl, by decide, fun h => absurd h (by decide)⟩
theorem fp_X11_220 : zfp RX11 220 11 30 false .int := ⟨RX11, TX11, 56, tyX11, zcls11, by decide, zme 5 68 (by decide +kernel) rfl, rfl, by decide, fun h => absurd h (by decide)⟩
theorem fp_X11_233 : zfp RX11 233 11 31 false .int := ⟨RX11, TX11, 56, tyX11, zcls11, by decide, zme 5 69 (by decide +kernel) rfl, rfl, by decide, fun h => absurd h (by decide)⟩
theorem fp_X11_236 : zfp RX11 236 11 32 false .int := ⟨RX11, TX11, 56, tyX11, zcls11, by decide, zme 5 70 (by decide +kernel) rfl, rfl, by decide, fun h => absurd h (by decide)⟩
theorem fp_X11_239 : zfp RX11 239 11 33 false .int := ⟨RX11, TX11, 56, tyX11, zcls11, by decide, zme 5 71 (by decide +kernel) rfl, rfl, by decide, fun h => absurd h (by decide)⟩
theorem fp_X11_323 : zfp RX11 323 11 45 false .int := ⟨RX11, TX11, 56, tyX11, zcls11, by decide, zme 5 83 (by decide +kernel) rfl, rfl, by decide, fun h => absurd h (by decide)⟩
theorem fp_X11_355 : zfp RX11 355 11 55 false .int := ⟨RX11, TX11, 56, tyX11, zcls11, by decide, zme 5 93 (by decide +kernel) rfl, rfl, by decide, fun h => absurd h (by decide)⟩
theorem fp_X2_9 : zfp RX2 9 2 1 true (.array .int) := ⟨RX2, TX2, 6, tyX2, zcls2, by decide, zme 1 154 (by decide +kernel) rfl, rfl, by decide, fun _ => rfl⟩
theorem fp_X2_15 : zfp RX2 15 2 2 true (.array .int) := ⟨RX2, TX2, 6, tyX2, zcls2, by decide, zme 1 155 (by decide +kernel) rfl, rfl, by decide, fun _ => rfl⟩
theorem fp_X2_18 : zfp RX2 18 2 3 true (.array .int) := ⟨RX2, TX2, 6, tyX2, zcls2, by decide, zme 1 156 (by decide +kernel) rfl, rfl, by decide, fun _ => rfl⟩
theorem fp_X2_21 : zfp RX2 21 2 4 false .int := ⟨RX2, TX2, 6, tyX2, zcls2, by decide, zme 1 157 (by decide +kernel) rfl, rfl, by decide, fun h => absurd h (by decide)⟩
theorem fp_X2_25 : zfp RX2 25 2 5 false .int := ⟨RX2, TX2, 6, tyX2, zcls2, by decide, zme 1 159 (by decide +kernel) rfl, rfl, by decide, fun h => absurd h (by decide)⟩
theorem fp_X2_28 : zfp RX2 28 2 0 true (.object "ShornSins$Told") := ⟨RX2, TX2, 6, tyX2, zcls2, by decide, zme 1 153 (by decide +kernel) rfl, rfl, by decide, fun _ => rfl⟩
theorem fp_X3_10 : zfp RX3 10 3 1 true (.object "ShornSins$Told") := ⟨RX3, TX3, 3, tyX3, zcls3, by decide, zme 1 188 (by decide +kernel) rfl, rfl, by decide, fun _ => rfl⟩
theorem fp_X3_21 : zfp RX3 21 3 2 true (.object "ShornSins$Course") := ⟨RX3, TX3, 3, tyX3, zcls3, by decide, zme 1 192 (by decide +kernel) rfl, rfl, by decide, fun _ => rfl⟩
theorem fp_X3_25 : zfp RX3 25 3 0 true (.object "ShornSins$Told") := ⟨RX3, TX3, 3, tyX3, zcls3, by decide, zme 1 184 (by decide +kernel) rfl, rfl, by decide, fun _ => rfl⟩
theorem fp_X4_12 : zfp RX4 12 4 1 true (.object "ShornSins$Choice") := ⟨RX4, TX4, 11, tyX4, zcls4, by decide, zme 1 224 (by decide +kernel) rfl, rfl, by decide, fun _ => rfl⟩
theorem fp_X4_18 : zfp RX4 18 4 2 true (.array .int) := ⟨RX4, TX4, 11, tyX4, zcls4, by decide, zme 1 225 (by decide +kernel) rfl, rfl, by decide, fun _ => rfl⟩
theorem fp_X4_22 : zfp RX4 22 4 3 false .int := ⟨RX4, TX4, 11, tyX4, zcls4, by decide, zme 1 226 (by decide +kernel) rfl, rfl, by decide, fun h => absurd h (by decide)⟩
theorem fp_X4_26 : zfp RX4 26 4 4 false .int := ⟨RX4, TX4, 11, tyX4, zcls4, by decide, zme 1 227 (by decide +kernel) rfl, rfl, by decide, fun h => absurd h (by decide)⟩
theorem fp_X4_29 : zfp RX4 29 4 5 false .int := ⟨RX4, TX4, 11, tyX4, zcls4, by decide, zme 1 228 (by decide +kernel) rfl, rfl, by decide, fun h => absurd h (by decide)⟩
theorem fp_X4_32 : zfp RX4 32 4 6 false .int := ⟨RX4, TX4, 11, tyX4, zcls4, by decide, zme 1 230 (by decide +kernel) rfl, rfl, by decide, fun h => absurd h (by decide)⟩
theorem fp_X4_35 : zfp RX4 35 4 7 false .int := ⟨RX4, TX4, 11, tyX4, zcls4, by decide, zme 1 232 (by decide +kernel) rfl, rfl, by decide, fun h => absurd h (by decide)⟩
theorem fp_X4_38 : zfp RX4 38 4 8 false .int := ⟨RX4, TX4, 11, tyX4, zcls4, by decide, zme 1 234 (by decide +kernel) rfl, rfl, by decide, fun h => absurd h (by decide)⟩
theorem fp_X4_41 : zfp RX4 41 4 9 false .int := ⟨RX4, TX4, 11, tyX4, zcls4, by decide, zme 1 235 (by decide +kernel) rfl, rfl, by decide, fun h => absurd h (by decide)⟩
theorem fp_X4_44 : zfp RX4 44 4 10 false .int := ⟨RX4, TX4, 11, tyX4, zcls4, by decide, zme 1 237 (by decide +kernel) rfl, rfl, by decide, fun h => absurd h (by decide)⟩
theorem fp_X4_47 : zfp RX4 47 4 0 true (.object "ShornSins$Other") := ⟨RX4, TX4, 11, tyX4, zcls4, by decide, zme 1 223 (by decide +kernel) rfl, rfl, by decide, fun _ => rfl⟩
theorem fp_X5_9 : zfp RX5 9 5 3 false .int := ⟨RX5, TX5, 4, tyX5, zcls5, by decide, zme 1 86 (by decide +kernel) rfl, rfl, by decide, fun h => absurd h (by decide)⟩
theorem fp_X5_21 : zfp RX5 21 5 0 true (.array .int) := ⟨RX5, TX5, 4, tyX5, zcls5, by decide, zme 1 77 (by decide +kernel) rfl, rfl, by decide, fun _ => rfl⟩
theorem fp_X5_25 : zfp RX5 25 5 1 true (.array .int) := ⟨RX5, TX5, 4, tyX5, zcls5, by decide, zme 1 80 (by decide +kernel) rfl, rfl, by decide, fun _ => rfl⟩
theorem fp_X5_28 : zfp RX5 28 5 2 true (.array .int) := ⟨RX5, TX5, 4, tyX5, zcls5, by decide, zme 1 83 (by decide +kernel) rfl, rfl, by decide, fun _ => rfl⟩
theorem fp_X6_9 : zfp RX6 9 6 0 true (.array .int) := ⟨RX6, TX6, 4, tyX6, zcls6, by decide, zme 2 83 (by decide +kernel) rfl, rfl, by decide, fun _ => rfl⟩
theorem fp_X6_15 : zfp RX6 15 6 1 true (.array .int) := ⟨RX6, TX6, 4, tyX6, zcls6, by decide, zme 2 84 (by decide +kernel) rfl, rfl, by decide, fun _ => rfl⟩
theorem fp_X6_18 : zfp RX6 18 6 2 true (.array .int) := ⟨RX6, TX6, 4, tyX6, zcls6, by decide, zme 2 85 (by decide +kernel) rfl, rfl, by decide, fun _ => rfl⟩
theorem fp_X6_21 : zfp RX6 21 6 3 false .int := ⟨RX6, TX6, 4, tyX6, zcls6, by decide, zme 2 86 (by decide +kernel) rfl, rfl, by decide, fun h => absurd h (by decide)⟩
theorem fp_X7_9 : zfp RX7 9 7 4 false .int := ⟨RX7, TX7, 5, tyX7, zcls7, by decide, zme 1 46 (by decide +kernel) rfl, rfl, by decide, fun h => absurd h (by decide)⟩
theorem fp_X7_21 : zfp RX7 21 7 0 true (.array .int) := ⟨RX7, TX7, 5, tyX7, zcls7, by decide, zme 1 42 (by decide +kernel) rfl, rfl, by decide, fun _ => rfl⟩
theorem fp_X7_25 : zfp RX7 25 7 1 true (.object "java/lang/String") := ⟨RX7, TX7, 5, tyX7, zcls7, by decide, zme 1 43 (by decide +kernel) rfl, rfl, by decide, fun _ => rfl⟩
theorem fp_X7_29 : zfp RX7 29 7 2 true (.object "java/lang/String") := ⟨RX7, TX7, 5, tyX7, zcls7, by decide, zme 1 44 (by decide +kernel) rfl, rfl, by decide, fun _ => rfl⟩
theorem fp_X7_32 : zfp RX7 32 7 3 true (.object "java/lang/String") := ⟨RX7, TX7, 5, tyX7, zcls7, by decide, zme 1 45 (by decide +kernel) rfl, rfl, by decide, fun _ => rfl⟩
theorem fp_X7_39 : zfp RX7 39 5 3 false .int := ⟨RX5, TX5, 4, tyX5, zcls5, by decide, zme 1 89 (by decide +kernel) rfl, rfl, by decide, fun h => absurd h (by decide)⟩
theorem fp_X8_14 : zfp RX8 14 8 0 true (.object "ShornSins$Rows") := ⟨RX8, TX8, 7, tyX8, zcls8, by decide, zme 1 102 (by decide +kernel) rfl, rfl, by decide, fun _ => rfl⟩
theorem fp_X8_20 : zfp RX8 20 8 1 true (.object "ShornSins$Rows") := ⟨RX8, TX8, 7, tyX8, zcls8, by decide, zme 1 108 (by decide +kernel) rfl, rfl, by decide, fun _ => rfl⟩
theorem fp_X8_23 : zfp RX8 23 8 2 true (.object "ShornSins$Rows") := ⟨RX8, TX8, 7, tyX8, zcls8, by decide, zme 1 114 (by decide +kernel) rfl, rfl, by decide, fun _ => rfl⟩
theorem fp_X8_26 : zfp RX8 26 8 3 true (.object "ShornSins$Rows") := ⟨RX8, TX8, 7, tyX8, zcls8, by decide, zme 1 119 (by decide +kernel) rfl, rfl, by decide, fun _ => rfl⟩
theorem fp_X8_29 : zfp RX8 29 8 4 true (.object "ShornSins$Rows") := ⟨RX8, TX8, 7, tyX8, zcls8, by decide, zme 1 122 (by decide +kernel) rfl, rfl, by decide, fun _ => rfl⟩
theorem fp_X8_32 : zfp RX8 32 8 5 false .int := ⟨RX8, TX8, 7, tyX8, zcls8, by decide, zme 1 126 (by decide +kernel) rfl, rfl, by decide, fun h => absurd h (by decide)⟩
theorem fp_X8_36 : zfp RX8 36 8 6 false .int := ⟨RX8, TX8, 7, tyX8, zcls8, by decide, zme 1 129 (by decide +kernel) rfl, rfl, by decide, fun h => absurd h (by decide)⟩
theorem fp_X9_14 : zfp RX9 14 9 0 true (.object "ShornSins$Rows") := ⟨RX9, TX9, 5, tyX9, zcls9, by decide, zme 2 30 (by decide +kernel) rfl, rfl, by decide, fun _ => rfl⟩
theorem fp_X9_20 : zfp RX9 20 9 1 false .int := ⟨RX9, TX9, 5, tyX9, zcls9, by decide, zme 2 32 (by decide +kernel) rfl, rfl, by decide, fun h => absurd h (by decide)⟩
theorem fp_X9_24 : zfp RX9 24 9 3 true (.array .int) := ⟨RX9, TX9, 5, tyX9, zcls9, by decide, zme 2 35 (by decide +kernel) rfl, rfl, by decide, fun _ => rfl⟩
theorem fp_X9_28 : zfp RX9 28 9 4 false .boolean := ⟨RX9, TX9, 5, tyX9, zcls9, by decide, zme 2 36 (by decide +kernel) rfl, rfl, by decide, fun h => absurd h (by decide)⟩
theorem fp_X9_32 : zfp RX9 32 9 2 true (.object "ShornSins$Other") := ⟨RX9, TX9, 5, tyX9, zcls9, by decide, zme 2 34 (by decide +kernel) rfl, rfl, by decide, fun _ => rfl⟩
theorem lk_J0_335 : zlV RJ0 335 mJ0_coder_7d493 0 := ⟨⟨zme 2 182 (by decide +kernel) rfl, zme 2 185 (by decide +kernel) rfl, zme 1 15 (by decide +kernel) rfl, by decide, by decide, by decide +kernel⟩, zme 2 183 (by decide +kernel) rfl, zme 2 184 (by decide +kernel) rfl⟩
theorem lk_J0_492 : zlV RJ0 492 mJ0_isLatin1_aae02 0 := ⟨⟨zme 2 172 (by decide +kernel) rfl, zme 2 175 (by decide +kernel) rfl, zme 1 15 (by decide +kernel) rfl, by decide, by decide, by decide +kernel⟩, zme 2 173 (by decide +kernel) rfl, zme 2 174 (by decide +kernel) rfl⟩
theorem lk_J0_505 : zlV RJ0 505 mJ0_length_8abf5 0 := ⟨⟨zme 2 178 (by decide +kernel) rfl, zme 2 181 (by decide +kernel) rfl, zme 1 15 (by decide +kernel) rfl, by decide, by decide, by decide +kernel⟩, zme 2 179 (by decide +kernel) rfl, zme 2 180 (by decide +kernel) rfl⟩
theorem lk_J0_633 : zlV RJ0 633 mJ0_indexOf_7cf53 2 := ⟨⟨zme 2 168 (by decide +kernel) rfl, zme 2 171 (by decide +kernel) rfl, zme 1 15 (by decide +kernel) rfl, by decide, by decide, by decide +kernel⟩, zme 2 169 (by decide +kernel) rfl, zme 2 170 (by decide +kernel) rfl⟩
theorem lk_J0_637 : zlS RJ0 637 mJ1_indexOf_4cfef 4 := ⟨⟨zme 2 186 (by decide +kernel) rfl, zme 2 188 (by decide +kernel) rfl, zme 1 16 (by decide +kernel) rfl, by decide, by decide, by decide +kernel⟩, zme 2 187 (by decide +kernel) rfl⟩
theorem lm_J1_38 : Cond.methodLink RJ1 38 Lib.Math.min.name ∈ zTB ∧ Cond.static Lib.Math.min.name ∈ zTB ∧ Cond.initialized "java/lang/Math" ∈ zTB ∧ Cond.code Lib.Math.min.name Lib.Math.min.code 2 (some .int) ∈ zTB := ⟨zme 2 193 (by decide +kernel) rfl, zme 2 194 (by decide +kernel) rfl, zme 1 3 (by decide +kernel) rfl, zme 2 195 (by decide +kernel) rfl⟩
theorem lk_J1_88 : zlS RJ1 88 mJ1_canEncode_9a6ad 1 := ⟨⟨zme 2 189 (by decide +kernel) rfl, zme 2 191 (by decide +kernel) rfl, zme 1 16 (by decide +kernel) rfl, by decide, by decide, by decide +kernel⟩, zme 2 190 (by decide +kernel) rfl⟩
theorem lm_J1_92 : Cond.methodLink RJ1 92 Lib.Math.max.name ∈ zTB ∧ Cond.static Lib.Math.max.name ∈ zTB ∧ Cond.initialized "java/lang/Math" ∈ zTB ∧ Cond.code Lib.Math.max.name Lib.Math.max.code 2 (some .int) ∈ zTB := ⟨zme 2 192 (by decide +kernel) rfl, zme 1 40 (by decide +kernel) rfl, zme 1 3 (by decide +kernel) rfl, zme 1 41 (by decide +kernel) rfl⟩
theorem lk_J1_95 : zlS RJ1 95 mJ1_indexOfChar_4cfef 4 := ⟨⟨zme 2 196 (by decide +kernel) rfl, zme 2 198 (by decide +kernel) rfl, zme 1 16 (by decide +kernel) rfl, by decide, by decide, by decide +kernel⟩, zme 2 197 (by decide +kernel) rfl⟩
theorem lk_L_9 : zlI x.cls 9 mX10_init 0 := ⟨⟨zme 1 24 (by decide +kernel) rfl, zme 1 26 (by decide +kernel) rfl, zme 1 1 (by decide +kernel) rfl, by decide, by decide, by decide +kernel⟩, rfl, rfl, zme 1 25 (by decide +kernel) rfl⟩
theorem lk_L_12 : zlI x.cls 12 mX11_init 0 := ⟨⟨zme 5 34 (by decide +kernel) rfl, zme 5 36 (by decide +kernel) rfl, zme 1 14 (by decide +kernel) rfl, by decide, by decide, by decide +kernel⟩, rfl, rfl, zme 5 35 (by decide +kernel) rfl⟩
theorem lk_L_13 : zlV x.cls 13 mX10_type 2 := ⟨⟨zme 2 128 (by decide +kernel) rfl, zme 2 131 (by decide +kernel) rfl, zme 1 1 (by decide +kernel) rfl, by decide, by decide, by decide +kernel⟩, zme 2 129 (by decide +kernel) rfl, zme 2 130 (by decide +kernel) rfl⟩
theorem lk_L_17 : zlV x.cls 17 mX11_type 2 := ⟨⟨zme 5 208 (by decide +kernel) rfl, zme 5 211 (by decide +kernel) rfl, zme 1 14 (by decide +kernel) rfl, by decide, by decide, by decide +kernel⟩, zme 5 209 (by decide +kernel) rfl, zme 5 210 (by decide +kernel) rfl⟩
theorem lk_L_18 : zlV x.cls 18 mX10_wipe 1 := ⟨⟨zme 3 28 (by decide +kernel) rfl, zme 3 31 (by decide +kernel) rfl, zme 1 1 (by decide +kernel) rfl, by decide, by decide, by decide +kernel⟩, zme 3 29 (by decide +kernel) rfl, zme 3 30 (by decide +kernel) rfl⟩
theorem lk_L_22 : zlV x.cls 22 mX11_wipe 1 := ⟨⟨zme 5 218 (by decide +kernel) rfl, zme 5 221 (by decide +kernel) rfl, zme 1 14 (by decide +kernel) rfl, by decide, by decide, by decide +kernel⟩, zme 5 219 (by decide +kernel) rfl, zme 5 220 (by decide +kernel) rfl⟩
theorem lk_L_23 : zlV x.cls 23 mX10_undo 1 := ⟨⟨zme 3 32 (by decide +kernel) rfl, zme 3 35 (by decide +kernel) rfl, zme 1 1 (by decide +kernel) rfl, by decide, by decide, by decide +kernel⟩, zme 3 33 (by decide +kernel) rfl, zme 3 34 (by decide +kernel) rfl⟩
theorem lk_L_26 : zlV x.cls 26 mX11_undo 1 := ⟨⟨zme 5 222 (by decide +kernel) rfl, zme 5 225 (by decide +kernel) rfl, zme 1 14 (by decide +kernel) rfl, by decide, by decide, by decide +kernel⟩, zme 5 223 (by decide +kernel) rfl, zme 5 224 (by decide +kernel) rfl⟩
theorem lk_L_27 : zlV x.cls 27 mX10_fault 1 := ⟨⟨zme 3 36 (by decide +kernel) rfl, zme 3 39 (by decide +kernel) rfl, zme 1 1 (by decide +kernel) rfl, by decide, by decide, by decide +kernel⟩, zme 3 37 (by decide +kernel) rfl, zme 3 38 (by decide +kernel) rfl⟩
theorem lk_L_30 : zlV x.cls 30 mX11_fault 1 := ⟨⟨zme 5 226 (by decide +kernel) rfl, zme 5 229 (by decide +kernel) rfl, zme 1 14 (by decide +kernel) rfl, by decide, by decide, by decide +kernel⟩, zme 5 227 (by decide +kernel) rfl, zme 5 228 (by decide +kernel) rfl⟩
theorem lk_L_31 : zlV x.cls 31 mX10_person 2 := ⟨⟨zme 3 41 (by decide +kernel) rfl, zme 3 44 (by decide +kernel) rfl, zme 1 1 (by decide +kernel) rfl, by decide, by decide, by decide +kernel⟩, zme 3 42 (by decide +kernel) rfl, zme 3 43 (by decide +kernel) rfl⟩
theorem lk_L_34 : zlV x.cls 34 mX11_person 2 := ⟨⟨zme 6 10 (by decide +kernel) rfl, zme 6 13 (by decide +kernel) rfl, zme 1 14 (by decide +kernel) rfl, by decide, by decide, by decide +kernel⟩, zme 6 11 (by decide +kernel) rfl, zme 6 12 (by decide +kernel) rfl⟩
theorem lk_L_35 : zlV x.cls 35 mX10_deed 2 := ⟨⟨zme 3 53 (by decide +kernel) rfl, zme 3 56 (by decide +kernel) rfl, zme 1 1 (by decide +kernel) rfl, by decide, by decide, by decide +kernel⟩, zme 3 54 (by decide +kernel) rfl, zme 3 55 (by decide +kernel) rfl⟩
theorem lk_L_38 : zlV x.cls 38 mX11_deed 2 := ⟨⟨zme 6 26 (by decide +kernel) rfl, zme 6 29 (by decide +kernel) rfl, zme 1 14 (by decide +kernel) rfl, by decide, by decide, by decide +kernel⟩, zme 6 27 (by decide +kernel) rfl, zme 6 28 (by decide +kernel) rfl⟩
theorem lk_L_39 : zlV x.cls 39 mX10_set 2 := ⟨⟨zme 3 61 (by decide +kernel) rfl, zme 3 64 (by decide +kernel) rfl, zme 1 1 (by decide +kernel) rfl, by decide, by decide, by decide +kernel⟩, zme 3 62 (by decide +kernel) rfl, zme 3 63 (by decide +kernel) rfl⟩
theorem lk_L_42 : zlV x.cls 42 mX11_set 2 := ⟨⟨zme 6 38 (by decide +kernel) rfl, zme 6 41 (by decide +kernel) rfl, zme 1 14 (by decide +kernel) rfl, by decide, by decide, by decide +kernel⟩, zme 6 39 (by decide +kernel) rfl, zme 6 40 (by decide +kernel) rfl⟩
theorem lk_L_43 : zlV x.cls 43 mX10_round 3 := ⟨⟨zme 3 65 (by decide +kernel) rfl, zme 3 68 (by decide +kernel) rfl, zme 1 1 (by decide +kernel) rfl, by decide, by decide, by decide +kernel⟩, zme 3 66 (by decide +kernel) rfl, zme 3 67 (by decide +kernel) rfl⟩
theorem lk_L_47 : zlV x.cls 47 mX11_round 3 := ⟨⟨zme 6 42 (by decide +kernel) rfl, zme 6 45 (by decide +kernel) rfl, zme 1 14 (by decide +kernel) rfl, by decide, by decide, by decide +kernel⟩, zme 6 43 (by decide +kernel) rfl, zme 6 44 (by decide +kernel) rfl⟩
theorem lk_L_48 : zlV x.cls 48 mX10_journey 3 := ⟨⟨zme 3 76 (by decide +kernel) rfl, zme 3 79 (by decide +kernel) rfl, zme 1 1 (by decide +kernel) rfl, by decide, by decide, by decide +kernel⟩, zme 3 77 (by decide +kernel) rfl, zme 3 78 (by decide +kernel) rfl⟩
theorem lk_L_51 : zlV x.cls 51 mX11_journey 3 := ⟨⟨zme 6 52 (by decide +kernel) rfl, zme 6 55 (by decide +kernel) rfl, zme 1 14 (by decide +kernel) rfl, by decide, by decide, by decide +kernel⟩, zme 6 53 (by decide +kernel) rfl, zme 6 54 (by decide +kernel) rfl⟩
theorem lk_L_52 : zlV x.cls 52 mX10_frost 1 := ⟨⟨zme 3 80 (by decide +kernel) rfl, zme 3 83 (by decide +kernel) rfl, zme 1 1 (by decide +kernel) rfl, by decide, by decide, by decide +kernel⟩, zme 3 81 (by decide +kernel) rfl, zme 3 82 (by decide +kernel) rfl⟩
theorem lk_L_55 : zlV x.cls 55 mX11_frost 1 := ⟨⟨zme 6 56 (by decide +kernel) rfl, zme 6 59 (by decide +kernel) rfl, zme 1 14 (by decide +kernel) rfl, by decide, by decide, by decide +kernel⟩, zme 6 57 (by decide +kernel) rfl, zme 6 58 (by decide +kernel) rfl⟩
theorem lk_L_56 : zlV x.cls 56 mX10_back 1 := ⟨⟨zme 3 84 (by decide +kernel) rfl, zme 3 87 (by decide +kernel) rfl, zme 1 1 (by decide +kernel) rfl, by decide, by decide, by decide +kernel⟩, zme 3 85 (by decide +kernel) rfl, zme 3 86 (by decide +kernel) rfl⟩
theorem lk_L_59 : zlV x.cls 59 mX11_back 1 := ⟨⟨zme 6 60 (by decide +kernel) rfl, zme 6 63 (by decide +kernel) rfl, zme 1 14 (by decide +kernel) rfl, by decide, by decide, by decide +kernel⟩, zme 6 61 (by decide +kernel) rfl, zme 6 62 (by decide +kernel) rfl⟩
theorem lk_L_60 : zlV x.cls 60 mX10_read 1 := ⟨⟨zme 3 88 (by decide +kernel) rfl, zme 3 91 (by decide +kernel) rfl, zme 1 1 (by decide +kernel) rfl, by decide, by decide, by decide +kernel⟩, zme 3 89 (by decide +kernel) rfl, zme 3 90 (by decide +kernel) rfl⟩
theorem lk_L_63 : zlV x.cls 63 mX11_read 1 := ⟨⟨zme 6 64 (by decide +kernel) rfl, zme 6 67 (by decide +kernel) rfl, zme 1 14 (by decide +kernel) rfl, by decide, by decide, by decide +kernel⟩, zme 6 65 (by decide +kernel) rfl, zme 6 66 (by decide +kernel) rfl⟩
theorem lk_L_64 : zlV x.cls 64 mX10_wool 3 := ⟨⟨zme 3 118 (by decide +kernel) rfl, zme 3 121 (by decide +kernel) rfl, zme 1 1 (by decide +kernel) rfl, by decide, by decide, by decide +kernel⟩, zme 3 119 (by decide +kernel) rfl, zme 3 120 (by decide +kernel) rfl⟩
theorem lk_L_67 : zlV x.cls 67 mX11_wool 3 := ⟨⟨zme 6 76 (by decide +kernel) rfl, zme 6 79 (by decide +kernel) rfl, zme 1 14 (by decide +kernel) rfl, by decide, by decide, by decide +kernel⟩, zme 6 77 (by decide +kernel) rfl, zme 6 78 (by decide +kernel) rfl⟩
theorem lk_L_68 : zlV x.cls 68 mX10_dies 1 := ⟨⟨zme 3 177 (by decide +kernel) rfl, zme 3 180 (by decide +kernel) rfl, zme 1 1 (by decide +kernel) rfl, by decide, by decide, by decide +kernel⟩, zme 3 178 (by decide +kernel) rfl, zme 3 179 (by decide +kernel) rfl⟩
theorem lk_L_71 : zlV x.cls 71 mX11_dies 1 := ⟨⟨zme 6 134 (by decide +kernel) rfl, zme 6 137 (by decide +kernel) rfl, zme 1 14 (by decide +kernel) rfl, by decide, by decide, by decide +kernel⟩, zme 6 135 (by decide +kernel) rfl, zme 6 136 (by decide +kernel) rfl⟩
theorem lk_L_72 : zlV x.cls 72 mX10_cloth 3 := ⟨⟨zme 3 185 (by decide +kernel) rfl, zme 3 188 (by decide +kernel) rfl, zme 1 1 (by decide +kernel) rfl, by decide, by decide, by decide +kernel⟩, zme 3 186 (by decide +kernel) rfl, zme 3 187 (by decide +kernel) rfl⟩
theorem lk_L_75 : zlV x.cls 75 mX11_cloth 3 := ⟨⟨zme 6 142 (by decide +kernel) rfl, zme 6 145 (by decide +kernel) rfl, zme 1 14 (by decide +kernel) rfl, by decide, by decide, by decide +kernel⟩, zme 6 143 (by decide +kernel) rfl, zme 6 144 (by decide +kernel) rfl⟩
theorem lk_L_76 : zlV x.cls 76 mX10_thorn 1 := ⟨⟨zme 3 189 (by decide +kernel) rfl, zme 3 192 (by decide +kernel) rfl, zme 1 1 (by decide +kernel) rfl, by decide, by decide, by decide +kernel⟩, zme 3 190 (by decide +kernel) rfl, zme 3 191 (by decide +kernel) rfl⟩
theorem lk_L_79 : zlV x.cls 79 mX11_thorn 1 := ⟨⟨zme 6 150 (by decide +kernel) rfl, zme 6 153 (by decide +kernel) rfl, zme 1 14 (by decide +kernel) rfl, by decide, by decide, by decide +kernel⟩, zme 6 151 (by decide +kernel) rfl, zme 6 152 (by decide +kernel) rfl⟩
theorem lk_L_80 : zlV x.cls 80 mX10_tax 1 := ⟨⟨zme 3 193 (by decide +kernel) rfl, zme 3 196 (by decide +kernel) rfl, zme 1 1 (by decide +kernel) rfl, by decide, by decide, by decide +kernel⟩, zme 3 194 (by decide +kernel) rfl, zme 3 195 (by decide +kernel) rfl⟩
theorem lk_L_83 : zlV x.cls 83 mX11_tax 1 := ⟨⟨zme 6 158 (by decide +kernel) rfl, zme 6 161 (by decide +kernel) rfl, zme 1 14 (by decide +kernel) rfl, by decide, by decide, by decide +kernel⟩, zme 6 159 (by decide +kernel) rfl, zme 6 160 (by decide +kernel) rfl⟩
theorem lk_L_84 : zlV x.cls 84 mX10_heaviest 1 := ⟨⟨zme 3 206 (by decide +kernel) rfl, zme 3 209 (by decide +kernel) rfl, zme 1 1 (by decide +kernel) rfl, by decide, by decide, by decide +kernel⟩, zme 3 207 (by decide +kernel) rfl, zme 3 208 (by decide +kernel) rfl⟩
theorem lk_L_87 : zlV x.cls 87 mX11_heaviest 1 := ⟨⟨zme 6 166 (by decide +kernel) rfl, zme 6 169 (by decide +kernel) rfl, zme 1 14 (by decide +kernel) rfl, by decide, by decide, by decide +kernel⟩, zme 6 167 (by decide +kernel) rfl, zme 6 168 (by decide +kernel) rfl⟩
theorem lk_L_88 : zlV x.cls 88 mX10_first 1 := ⟨⟨zme 3 214 (by decide +kernel) rfl, zme 3 217 (by decide +kernel) rfl, zme 1 1 (by decide +kernel) rfl, by decide, by decide, by decide +kernel⟩, zme 3 215 (by decide +kernel) rfl, zme 3 216 (by decide +kernel) rfl⟩
theorem lk_L_91 : zlV x.cls 91 mX11_first 1 := ⟨⟨zme 6 174 (by decide +kernel) rfl, zme 6 177 (by decide +kernel) rfl, zme 1 14 (by decide +kernel) rfl, by decide, by decide, by decide +kernel⟩, zme 6 175 (by decide +kernel) rfl, zme 6 176 (by decide +kernel) rfl⟩
theorem lk_L_92 : zlV x.cls 92 mX10_plan 2 := ⟨⟨zme 3 218 (by decide +kernel) rfl, zme 3 221 (by decide +kernel) rfl, zme 1 1 (by decide +kernel) rfl, by decide, by decide, by decide +kernel⟩, zme 3 219 (by decide +kernel) rfl, zme 3 220 (by decide +kernel) rfl⟩
theorem lk_L_95 : zlV x.cls 95 mX11_plan 2 := ⟨⟨zme 6 182 (by decide +kernel) rfl, zme 6 185 (by decide +kernel) rfl, zme 1 14 (by decide +kernel) rfl, by decide, by decide, by decide +kernel⟩, zme 6 183 (by decide +kernel) rfl, zme 6 184 (by decide +kernel) rfl⟩
theorem lk_L_96 : zlV x.cls 96 mX10_light 3 := ⟨⟨zme 4 6 (by decide +kernel) rfl, zme 4 9 (by decide +kernel) rfl, zme 1 1 (by decide +kernel) rfl, by decide, by decide, by decide +kernel⟩, zme 4 7 (by decide +kernel) rfl, zme 4 8 (by decide +kernel) rfl⟩
theorem lk_L_99 : zlV x.cls 99 mX11_light 3 := ⟨⟨zme 6 194 (by decide +kernel) rfl, zme 6 197 (by decide +kernel) rfl, zme 1 14 (by decide +kernel) rfl, by decide, by decide, by decide +kernel⟩, zme 6 195 (by decide +kernel) rfl, zme 6 196 (by decide +kernel) rfl⟩
theorem lk_L_100 : zlV x.cls 100 mX10_spare 1 := ⟨⟨zme 4 40 (by decide +kernel) rfl, zme 4 43 (by decide +kernel) rfl, zme 1 1 (by decide +kernel) rfl, by decide, by decide, by decide +kernel⟩, zme 4 41 (by decide +kernel) rfl, zme 4 42 (by decide +kernel) rfl⟩
theorem lk_L_103 : zlV x.cls 103 mX11_spare 1 := ⟨⟨zme 6 210 (by decide +kernel) rfl, zme 6 213 (by decide +kernel) rfl, zme 1 14 (by decide +kernel) rfl, by decide, by decide, by decide +kernel⟩, zme 6 211 (by decide +kernel) rfl, zme 6 212 (by decide +kernel) rfl⟩
theorem lk_L_104 : zlV x.cls 104 mX10_home 2 := ⟨⟨zme 4 52 (by decide +kernel) rfl, zme 4 55 (by decide +kernel) rfl, zme 1 1 (by decide +kernel) rfl, by decide, by decide, by decide +kernel⟩, zme 4 53 (by decide +kernel) rfl, zme 4 54 (by decide +kernel) rfl⟩
theorem lk_L_107 : zlV x.cls 107 mX11_home 2 := ⟨⟨zme 6 226 (by decide +kernel) rfl, zme 6 229 (by decide +kernel) rfl, zme 1 14 (by decide +kernel) rfl, by decide, by decide, by decide +kernel⟩, zme 6 227 (by decide +kernel) rfl, zme 6 228 (by decide +kernel) rfl⟩
theorem lk_L_108 : zlV x.cls 108 mX10_seen 3 := ⟨⟨zme 4 64 (by decide +kernel) rfl, zme 4 67 (by decide +kernel) rfl, zme 1 1 (by decide +kernel) rfl, by decide, by decide, by decide +kernel⟩, zme 4 65 (by decide +kernel) rfl, zme 4 66 (by decide +kernel) rfl⟩
theorem lk_L_111 : zlV x.cls 111 mX11_seen 3 := ⟨⟨zme 6 234 (by decide +kernel) rfl, zme 6 237 (by decide +kernel) rfl, zme 1 14 (by decide +kernel) rfl, by decide, by decide, by decide +kernel⟩, zme 6 235 (by decide +kernel) rfl, zme 6 236 (by decide +kernel) rfl⟩
theorem lk_L_112 : zlV x.cls 112 mX10_forget 0 := ⟨⟨zme 4 68 (by decide +kernel) rfl, zme 4 71 (by decide +kernel) rfl, zme 1 1 (by decide +kernel) rfl, by decide, by decide, by decide +kernel⟩, zme 4 69 (by decide +kernel) rfl, zme 4 70 (by decide +kernel) rfl⟩
theorem lk_L_116 : zlV x.cls 116 mX11_forget 0 := ⟨⟨zme 6 238 (by decide +kernel) rfl, zme 7 1 (by decide +kernel) rfl, zme 1 14 (by decide +kernel) rfl, by decide, by decide, by decide +kernel⟩, zme 6 239 (by decide +kernel) rfl, zme 7 0 (by decide +kernel) rfl⟩
theorem lk_L_117 : zlV x.cls 117 mX10_never 0 := ⟨⟨zme 4 72 (by decide +kernel) rfl, zme 4 75 (by decide +kernel) rfl, zme 1 1 (by decide +kernel) rfl, by decide, by decide, by decide +kernel⟩, zme 4 73 (by decide +kernel) rfl, zme 4 74 (by decide +kernel) rfl⟩
theorem lk_L_120 : zlV x.cls 120 mX11_never 0 := ⟨⟨zme 7 2 (by decide +kernel) rfl, zme 7 5 (by decide +kernel) rfl, zme 1 14 (by decide +kernel) rfl, by decide, by decide, by decide +kernel⟩, zme 7 3 (by decide +kernel) rfl, zme 7 4 (by decide +kernel) rfl⟩
theorem lk_L_121 : zlV x.cls 121 mX10_was 2 := ⟨⟨zme 4 95 (by decide +kernel) rfl, zme 4 98 (by decide +kernel) rfl, zme 1 1 (by decide +kernel) rfl, by decide, by decide, by decide +kernel⟩, zme 4 96 (by decide +kernel) rfl, zme 4 97 (by decide +kernel) rfl⟩
theorem lk_L_124 : zlV x.cls 124 mX11_was 2 := ⟨⟨zme 7 14 (by decide +kernel) rfl, zme 7 17 (by decide +kernel) rfl, zme 1 14 (by decide +kernel) rfl, by decide, by decide, by decide +kernel⟩, zme 7 15 (by decide +kernel) rfl, zme 7 16 (by decide +kernel) rfl⟩
theorem lk_L_125 : zlV x.cls 125 mX10_ask 1 := ⟨⟨zme 4 109 (by decide +kernel) rfl, zme 4 112 (by decide +kernel) rfl, zme 1 1 (by decide +kernel) rfl, by decide, by decide, by decide +kernel⟩, zme 4 110 (by decide +kernel) rfl, zme 4 111 (by decide +kernel) rfl⟩
theorem lk_L_128 : zlV x.cls 128 mX11_ask 1 := ⟨⟨zme 7 22 (by decide +kernel) rfl, zme 7 25 (by decide +kernel) rfl, zme 1 14 (by decide +kernel) rfl, by decide, by decide, by decide +kernel⟩, zme 7 23 (by decide +kernel) rfl, zme 7 24 (by decide +kernel) rfl⟩
theorem lk_L_129 : zlV x.cls 129 mX10_virtue 4 := ⟨⟨zme 4 125 (by decide +kernel) rfl, zme 4 128 (by decide +kernel) rfl, zme 1 1 (by decide +kernel) rfl, by decide, by decide, by decide +kernel⟩, zme 4 126 (by decide +kernel) rfl, zme 4 127 (by decide +kernel) rfl⟩
theorem lk_L_133 : zlV x.cls 133 mX11_virtue 4 := ⟨⟨zme 7 30 (by decide +kernel) rfl, zme 7 33 (by decide +kernel) rfl, zme 1 14 (by decide +kernel) rfl, by decide, by decide, by decide +kernel⟩, zme 7 31 (by decide +kernel) rfl, zme 7 32 (by decide +kernel) rfl⟩
theorem lk_L_134 : zlV x.cls 134 mX10_years 3 := ⟨⟨zme 4 171 (by decide +kernel) rfl, zme 4 174 (by decide +kernel) rfl, zme 1 1 (by decide +kernel) rfl, by decide, by decide, by decide +kernel⟩, zme 4 172 (by decide +kernel) rfl, zme 4 173 (by decide +kernel) rfl⟩
theorem lk_L_137 : zlV x.cls 137 mX11_years 3 := ⟨⟨zme 7 45 (by decide +kernel) rfl, zme 7 48 (by decide +kernel) rfl, zme 1 14 (by decide +kernel) rfl, by decide, by decide, by decide +kernel⟩, zme 7 46 (by decide +kernel) rfl, zme 7 47 (by decide +kernel) rfl⟩
theorem lk_L_138 : zlV x.cls 138 mX10_sheet 3 := ⟨⟨zme 4 185 (by decide +kernel) rfl, zme 4 188 (by decide +kernel) rfl, zme 1 1 (by decide +kernel) rfl, by decide, by decide, by decide +kernel⟩, zme 4 186 (by decide +kernel) rfl, zme 4 187 (by decide +kernel) rfl⟩
theorem lk_L_141 : zlV x.cls 141 mX11_sheet 3 := ⟨⟨zme 7 54 (by decide +kernel) rfl, zme 7 57 (by decide +kernel) rfl, zme 1 14 (by decide +kernel) rfl, by decide, by decide, by decide +kernel⟩, zme 7 55 (by decide +kernel) rfl, zme 7 56 (by decide +kernel) rfl⟩
theorem lk_L_142 : zlV x.cls 142 mX10_lose 1 := ⟨⟨zme 4 193 (by decide +kernel) rfl, zme 4 196 (by decide +kernel) rfl, zme 1 1 (by decide +kernel) rfl, by decide, by decide, by decide +kernel⟩, zme 4 194 (by decide +kernel) rfl, zme 4 195 (by decide +kernel) rfl⟩
theorem lk_L_145 : zlV x.cls 145 mX11_lose 1 := ⟨⟨zme 7 58 (by decide +kernel) rfl, zme 7 61 (by decide +kernel) rfl, zme 1 14 (by decide +kernel) rfl, by decide, by decide, by decide +kernel⟩, zme 7 59 (by decide +kernel) rfl, zme 7 60 (by decide +kernel) rfl⟩
theorem lk_L_146 : zlV x.cls 146 mX10_put 4 := ⟨⟨zme 4 201 (by decide +kernel) rfl, zme 4 204 (by decide +kernel) rfl, zme 1 1 (by decide +kernel) rfl, by decide, by decide, by decide +kernel⟩, zme 4 202 (by decide +kernel) rfl, zme 4 203 (by decide +kernel) rfl⟩
theorem lk_L_150 : zlV x.cls 150 mX11_put 4 := ⟨⟨zme 7 62 (by decide +kernel) rfl, zme 7 65 (by decide +kernel) rfl, zme 1 14 (by decide +kernel) rfl, by decide, by decide, by decide +kernel⟩, zme 7 63 (by decide +kernel) rfl, zme 7 64 (by decide +kernel) rfl⟩
theorem lk_L_151 : zlV x.cls 151 mX10_get 3 := ⟨⟨zme 4 213 (by decide +kernel) rfl, zme 4 216 (by decide +kernel) rfl, zme 1 1 (by decide +kernel) rfl, by decide, by decide, by decide +kernel⟩, zme 4 214 (by decide +kernel) rfl, zme 4 215 (by decide +kernel) rfl⟩
theorem lk_L_154 : zlV x.cls 154 mX11_get 3 := ⟨⟨zme 7 74 (by decide +kernel) rfl, zme 7 77 (by decide +kernel) rfl, zme 1 14 (by decide +kernel) rfl, by decide, by decide, by decide +kernel⟩, zme 7 75 (by decide +kernel) rfl, zme 7 76 (by decide +kernel) rfl⟩
theorem lk_L_155 : zlV x.cls 155 mX10_copy 5 := ⟨⟨zme 4 218 (by decide +kernel) rfl, zme 4 221 (by decide +kernel) rfl, zme 1 1 (by decide +kernel) rfl, by decide, by decide, by decide +kernel⟩, zme 4 219 (by decide +kernel) rfl, zme 4 220 (by decide +kernel) rfl⟩
theorem lk_L_159 : zlV x.cls 159 mX11_copy 5 := ⟨⟨zme 7 79 (by decide +kernel) rfl, zme 7 82 (by decide +kernel) rfl, zme 1 14 (by decide +kernel) rfl, by decide, by decide, by decide +kernel⟩, zme 7 80 (by decide +kernel) rfl, zme 7 81 (by decide +kernel) rfl⟩
theorem lk_L_160 : zlV x.cls 160 mX10_write 2 := ⟨⟨zme 4 232 (by decide +kernel) rfl, zme 4 235 (by decide +kernel) rfl, zme 1 1 (by decide +kernel) rfl, by decide, by decide, by decide +kernel⟩, zme 4 233 (by decide +kernel) rfl, zme 4 234 (by decide +kernel) rfl⟩
theorem lk_L_163 : zlV x.cls 163 mX11_write 2 := ⟨⟨zme 7 83 (by decide +kernel) rfl, zme 7 86 (by decide +kernel) rfl, zme 1 14 (by decide +kernel) rfl, by decide, by decide, by decide +kernel⟩, zme 7 84 (by decide +kernel) rfl, zme 7 85 (by decide +kernel) rfl⟩
theorem lk_L_164 : zlV x.cls 164 mX10_count 1 := ⟨⟨zme 4 237 (by decide +kernel) rfl, zme 5 0 (by decide +kernel) rfl, zme 1 1 (by decide +kernel) rfl, by decide, by decide, by decide +kernel⟩, zme 4 238 (by decide +kernel) rfl, zme 4 239 (by decide +kernel) rfl⟩
theorem lk_L_167 : zlV x.cls 167 mX11_count 1 := ⟨⟨zme 7 87 (by decide +kernel) rfl, zme 7 90 (by decide +kernel) rfl, zme 1 14 (by decide +kernel) rfl, by decide, by decide, by decide +kernel⟩, zme 7 88 (by decide +kernel) rfl, zme 7 89 (by decide +kernel) rfl⟩
theorem lk_L_168 : zlV x.cls 168 mX10_digest 0 := ⟨⟨zme 5 2 (by decide +kernel) rfl, zme 5 5 (by decide +kernel) rfl, zme 1 1 (by decide +kernel) rfl, by decide, by decide, by decide +kernel⟩, zme 5 3 (by decide +kernel) rfl, zme 5 4 (by decide +kernel) rfl⟩
theorem lk_L_172 : zlV x.cls 172 mX11_digest 0 := ⟨⟨zme 7 95 (by decide +kernel) rfl, zme 7 98 (by decide +kernel) rfl, zme 1 14 (by decide +kernel) rfl, by decide, by decide, by decide +kernel⟩, zme 7 96 (by decide +kernel) rfl, zme 7 97 (by decide +kernel) rfl⟩
theorem lo_X0_3 : Cond.methodLink RX0 3 Lib.objectInit ∈ zTB ∧ Cond.instanceMethod Lib.objectInit ∈ zTB ∧ Cond.code Lib.objectInit ⟨#[0xb1]⟩ 1 none ∈ zTB := ⟨zme 2 53 (by decide +kernel) rfl, zme 1 28 (by decide +kernel) rfl, zme 1 29 (by decide +kernel) rfl⟩
theorem lk_X0_44 : zlS RX0 44 mX2_monthsOf 1 := ⟨⟨zme 4 134 (by decide +kernel) rfl, zme 3 137 (by decide +kernel) rfl, zme 1 6 (by decide +kernel) rfl, by decide, by decide, by decide +kernel⟩, zme 3 136 (by decide +kernel) rfl⟩
theorem lk_X0_50 : zlS RX0 50 mJ6_bitCount_0f7a4 1 := ⟨⟨zme 4 135 (by decide +kernel) rfl, zme 4 137 (by decide +kernel) rfl, zme 1 21 (by decide +kernel) rfl, by decide, by decide, by decide +kernel⟩, zme 4 136 (by decide +kernel) rfl⟩
theorem lk_X0_56 : zlS RX0 56 mJ7_fill_d0a16 2 := ⟨⟨zme 4 141 (by decide +kernel) rfl, zme 4 143 (by decide +kernel) rfl, zme 1 13 (by decide +kernel) rfl, by decide, by decide, by decide +kernel⟩, zme 4 142 (by decide +kernel) rfl⟩
theorem lk_X0_62 : zlS RX0 62 mX0_power 2 := ⟨⟨zme 4 144 (by decide +kernel) rfl, zme 4 146 (by decide +kernel) rfl, zme 1 11 (by decide +kernel) rfl, by decide, by decide, by decide +kernel⟩, zme 4 145 (by decide +kernel) rfl⟩
theorem lk_X0_66 : zlV RX0 66 mX3_afresh 0 := ⟨⟨zme 4 147 (by decide +kernel) rfl, zme 3 229 (by decide +kernel) rfl, zme 1 7 (by decide +kernel) rfl, by decide, by decide, by decide +kernel⟩, zme 3 227 (by decide +kernel) rfl, zme 3 228 (by decide +kernel) rfl⟩
theorem lk_X0_69 : zlV RX0 69 mX0_supposeFrosts 2 := ⟨⟨zme 4 148 (by decide +kernel) rfl, zme 4 151 (by decide +kernel) rfl, zme 1 11 (by decide +kernel) rfl, by decide, by decide, by decide +kernel⟩, zme 4 150 (by decide +kernel) rfl, zme 0 23 (by decide +kernel) rfl⟩
theorem lk_X0_77 : zlV RX0 77 mX2_run 1 := ⟨⟨zme 4 153 (by decide +kernel) rfl, zme 3 129 (by decide +kernel) rfl, zme 1 6 (by decide +kernel) rfl, by decide, by decide, by decide +kernel⟩, zme 3 127 (by decide +kernel) rfl, zme 3 128 (by decide +kernel) rfl⟩
theorem lk_X0_81 : zlV RX0 81 mX0_addToLiving 1 := ⟨⟨zme 4 154 (by decide +kernel) rfl, zme 4 157 (by decide +kernel) rfl, zme 1 11 (by decide +kernel) rfl, by decide, by decide, by decide +kernel⟩, zme 4 156 (by decide +kernel) rfl, zme 0 24 (by decide +kernel) rfl⟩
theorem lk_X0_85 : zlV RX0 85 mX0_reduce 1 := ⟨⟨zme 4 159 (by decide +kernel) rfl, zme 4 162 (by decide +kernel) rfl, zme 1 11 (by decide +kernel) rfl, by decide, by decide, by decide +kernel⟩, zme 4 161 (by decide +kernel) rfl, zme 0 25 (by decide +kernel) rfl⟩
theorem lk_X0_99 : zlV RX0 99 mX5_append 3 := ⟨⟨zme 4 152 (by decide +kernel) rfl, zme 3 11 (by decide +kernel) rfl, zme 1 5 (by decide +kernel) rfl, by decide, by decide, by decide +kernel⟩, zme 3 9 (by decide +kernel) rfl, zme 3 10 (by decide +kernel) rfl⟩
theorem lk_X0_103 : zlV RX0 103 mX2_deathOf 1 := ⟨⟨zme 4 158 (by decide +kernel) rfl, zme 3 184 (by decide +kernel) rfl, zme 1 6 (by decide +kernel) rfl, by decide, by decide, by decide +kernel⟩, zme 3 182 (by decide +kernel) rfl, zme 3 183 (by decide +kernel) rfl⟩
theorem lk_X0_112 : zlV RX0 112 mX0_lot 1 := ⟨⟨zme 4 179 (by decide +kernel) rfl, zme 4 182 (by decide +kernel) rfl, zme 1 11 (by decide +kernel) rfl, by decide, by decide, by decide +kernel⟩, zme 4 181 (by decide +kernel) rfl, zme 0 26 (by decide +kernel) rfl⟩
theorem lo_X1_3 : Cond.methodLink RX1 3 Lib.objectInit ∈ zTB ∧ Cond.instanceMethod Lib.objectInit ∈ zTB ∧ Cond.code Lib.objectInit ⟨#[0xb1]⟩ 1 none ∈ zTB := ⟨zme 1 215 (by decide +kernel) rfl, zme 1 28 (by decide +kernel) rfl, zme 1 29 (by decide +kernel) rfl⟩
theorem lk_X1_18 : zlV RX1 18 mX5_takeOut 1 := ⟨⟨zme 4 22 (by decide +kernel) rfl, zme 4 25 (by decide +kernel) rfl, zme 1 5 (by decide +kernel) rfl, by decide, by decide, by decide +kernel⟩, zme 4 23 (by decide +kernel) rfl, zme 4 24 (by decide +kernel) rfl⟩
theorem lo_X10_1 : Cond.methodLink RX10 1 Lib.objectInit ∈ zTB ∧ Cond.instanceMethod Lib.objectInit ∈ zTB ∧ Cond.code Lib.objectInit ⟨#[0xb1]⟩ 1 none ∈ zTB := ⟨zme 1 27 (by decide +kernel) rfl, zme 1 28 (by decide +kernel) rfl, zme 1 29 (by decide +kernel) rfl⟩
theorem lk_X10_17 : zlI RX10 17 (mX7_init 0) 4 := ⟨⟨zme 1 35 (by decide +kernel) rfl, zme 1 37 (by decide +kernel) rfl, zme 1 2 (by decide +kernel) rfl, by decide, by decide, by decide +kernel⟩, rfl, rfl, zme 1 36 (by decide +kernel) rfl⟩
theorem lk_X10_35 : zlN RX10 35 mX8_init 0 := ⟨⟨_, List.mem_of_getElem? (i := 0) rfl, rfl, rfl, rfl⟩, rfl, rfl, zme 1 67 (by decide +kernel) rfl, zme 1 68 (by decide +kernel) rfl, zme 1 4 (by decide +kernel) rfl, by decide, by decide, by decide +kernel⟩
theorem lk_X10_42 : zlI RX10 42 mX2_init 1 := ⟨⟨zme 1 149 (by decide +kernel) rfl, zme 1 151 (by decide +kernel) rfl, zme 1 6 (by decide +kernel) rfl, by decide, by decide, by decide +kernel⟩, rfl, rfl, zme 1 150 (by decide +kernel) rfl⟩
theorem lk_X10_51 : zlI RX10 51 mX3_init 1 := ⟨⟨zme 1 176 (by decide +kernel) rfl, zme 1 178 (by decide +kernel) rfl, zme 1 7 (by decide +kernel) rfl, by decide, by decide, by decide +kernel⟩, rfl, rfl, zme 1 177 (by decide +kernel) rfl⟩
theorem lk_X10_58 : zlI RX10 58 mX4_init 1 := ⟨⟨zme 1 206 (by decide +kernel) rfl, zme 1 208 (by decide +kernel) rfl, zme 1 8 (by decide +kernel) rfl, by decide, by decide, by decide +kernel⟩, rfl, rfl, zme 1 207 (by decide +kernel) rfl⟩
theorem lk_X10_67 : zlI RX10 67 mX9_init 1 := ⟨⟨zme 2 24 (by decide +kernel) rfl, zme 2 26 (by decide +kernel) rfl, zme 1 10 (by decide +kernel) rfl, by decide, by decide, by decide +kernel⟩, rfl, rfl, zme 2 25 (by decide +kernel) rfl⟩
theorem lk_X10_74 : zlI RX10 74 mX0_init 1 := ⟨⟨zme 2 50 (by decide +kernel) rfl, zme 2 52 (by decide +kernel) rfl, zme 1 11 (by decide +kernel) rfl, by decide, by decide, by decide +kernel⟩, rfl, rfl, zme 2 51 (by decide +kernel) rfl⟩
theorem lk_X10_81 : zlI RX10 81 mX6_init 0 := ⟨⟨zme 2 76 (by decide +kernel) rfl, zme 2 78 (by decide +kernel) rfl, zme 1 12 (by decide +kernel) rfl, by decide, by decide, by decide +kernel⟩, rfl, rfl, zme 2 77 (by decide +kernel) rfl⟩
theorem lk_X10_90 : zlS RX10 90 mX10_within 3 := ⟨⟨zme 2 132 (by decide +kernel) rfl, zme 2 134 (by decide +kernel) rfl, zme 1 1 (by decide +kernel) rfl, by decide, by decide, by decide +kernel⟩, zme 2 133 (by decide +kernel) rfl⟩
theorem lk_X10_94 : zlV RX10 94 mX10_textOf 1 := ⟨⟨zme 2 135 (by decide +kernel) rfl, zme 2 138 (by decide +kernel) rfl, zme 1 1 (by decide +kernel) rfl, by decide, by decide, by decide +kernel⟩, zme 2 137 (by decide +kernel) rfl, zme 0 0 (by decide +kernel) rfl⟩
theorem lk_X10_98 : zlV RX10 98 mX7_append 1 := ⟨⟨zme 2 139 (by decide +kernel) rfl, zme 2 142 (by decide +kernel) rfl, zme 1 2 (by decide +kernel) rfl, by decide, by decide, by decide +kernel⟩, zme 2 140 (by decide +kernel) rfl, zme 2 141 (by decide +kernel) rfl⟩
theorem lk_X10_102 : zlV RX10 102 mX10_readTexts 0 := ⟨⟨zme 2 143 (by decide +kernel) rfl, zme 2 146 (by decide +kernel) rfl, zme 1 1 (by decide +kernel) rfl, by decide, by decide, by decide +kernel⟩, zme 2 145 (by decide +kernel) rfl, zme 0 1 (by decide +kernel) rfl⟩
theorem lk_X10_109 : zlV RX10 109 mX7_faultPlace 0 := ⟨⟨zme 3 40 (by decide +kernel) rfl, zme 2 154 (by decide +kernel) rfl, zme 1 2 (by decide +kernel) rfl, by decide, by decide, by decide +kernel⟩, zme 2 152 (by decide +kernel) rfl, zme 2 153 (by decide +kernel) rfl⟩
theorem lk_X10_113 : zlV RX10 113 mX10_isPerson 1 := ⟨⟨zme 3 45 (by decide +kernel) rfl, zme 3 48 (by decide +kernel) rfl, zme 1 1 (by decide +kernel) rfl, by decide, by decide, by decide +kernel⟩, zme 3 47 (by decide +kernel) rfl, zme 0 5 (by decide +kernel) rfl⟩
theorem lk_X10_121 : zlV RX10 121 mX5_cell 2 := ⟨⟨zme 3 49 (by decide +kernel) rfl, zme 3 52 (by decide +kernel) rfl, zme 1 5 (by decide +kernel) rfl, by decide, by decide, by decide +kernel⟩, zme 3 50 (by decide +kernel) rfl, zme 3 51 (by decide +kernel) rfl⟩
theorem lk_X10_127 : zlV RX10 127 mX10_isDeed 1 := ⟨⟨zme 3 57 (by decide +kernel) rfl, zme 3 60 (by decide +kernel) rfl, zme 1 1 (by decide +kernel) rfl, by decide, by decide, by decide +kernel⟩, zme 3 59 (by decide +kernel) rfl, zme 0 6 (by decide +kernel) rfl⟩
theorem lk_X10_139 : zlV RX10 139 mX10_unsettle 0 := ⟨⟨zme 3 12 (by decide +kernel) rfl, zme 3 15 (by decide +kernel) rfl, zme 1 1 (by decide +kernel) rfl, by decide, by decide, by decide +kernel⟩, zme 3 14 (by decide +kernel) rfl, zme 0 4 (by decide +kernel) rfl⟩
theorem lk_X10_142 : zlS RX10 142 mX10_isMonth 1 := ⟨⟨zme 3 69 (by decide +kernel) rfl, zme 3 71 (by decide +kernel) rfl, zme 1 1 (by decide +kernel) rfl, by decide, by decide, by decide +kernel⟩, zme 3 70 (by decide +kernel) rfl⟩
theorem lk_X10_145 : zlS RX10 145 mX10_isCounty 1 := ⟨⟨zme 3 72 (by decide +kernel) rfl, zme 3 74 (by decide +kernel) rfl, zme 1 1 (by decide +kernel) rfl, by decide, by decide, by decide +kernel⟩, zme 3 73 (by decide +kernel) rfl⟩
theorem lk_X10_154 : zlV RX10 154 mX5_append 3 := ⟨⟨zme 3 75 (by decide +kernel) rfl, zme 3 11 (by decide +kernel) rfl, zme 1 5 (by decide +kernel) rfl, by decide, by decide, by decide +kernel⟩, zme 3 9 (by decide +kernel) rfl, zme 3 10 (by decide +kernel) rfl⟩
theorem lk_X10_163 : zlS RX10 163 mX10_isSheet 1 := ⟨⟨zme 3 92 (by decide +kernel) rfl, zme 3 94 (by decide +kernel) rfl, zme 1 1 (by decide +kernel) rfl, by decide, by decide, by decide +kernel⟩, zme 3 93 (by decide +kernel) rfl⟩
theorem lk_X10_166 : zlV RX10 166 mX6_isLost 1 := ⟨⟨zme 3 95 (by decide +kernel) rfl, zme 3 98 (by decide +kernel) rfl, zme 1 12 (by decide +kernel) rfl, by decide, by decide, by decide +kernel⟩, zme 3 96 (by decide +kernel) rfl, zme 3 97 (by decide +kernel) rfl⟩
theorem lk_X10_169 : zlV RX10 169 mX6_finding 1 := ⟨⟨zme 3 99 (by decide +kernel) rfl, zme 3 102 (by decide +kernel) rfl, zme 1 12 (by decide +kernel) rfl, by decide, by decide, by decide +kernel⟩, zme 3 100 (by decide +kernel) rfl, zme 3 101 (by decide +kernel) rfl⟩
theorem lk_X10_172 : zlV RX10 172 mX6_length 1 := ⟨⟨zme 3 103 (by decide +kernel) rfl, zme 3 106 (by decide +kernel) rfl, zme 1 12 (by decide +kernel) rfl, by decide, by decide, by decide +kernel⟩, zme 3 104 (by decide +kernel) rfl, zme 3 105 (by decide +kernel) rfl⟩
theorem lk_X10_174 : zlV RX10 174 mX6_item 2 := ⟨⟨zme 3 108 (by decide +kernel) rfl, zme 3 111 (by decide +kernel) rfl, zme 1 12 (by decide +kernel) rfl, by decide, by decide, by decide +kernel⟩, zme 3 109 (by decide +kernel) rfl, zme 3 110 (by decide +kernel) rfl⟩
theorem lk_X10_177 : zlV RX10 177 mX10_round 3 := ⟨⟨zme 3 117 (by decide +kernel) rfl, zme 3 68 (by decide +kernel) rfl, zme 1 1 (by decide +kernel) rfl, by decide, by decide, by decide +kernel⟩, zme 3 66 (by decide +kernel) rfl, zme 3 67 (by decide +kernel) rfl⟩
theorem lk_X10_180 : zlV RX10 180 mX10_settle 0 := ⟨⟨zme 3 122 (by decide +kernel) rfl, zme 3 125 (by decide +kernel) rfl, zme 1 1 (by decide +kernel) rfl, by decide, by decide, by decide +kernel⟩, zme 3 124 (by decide +kernel) rfl, zme 0 7 (by decide +kernel) rfl⟩
theorem lk_X10_183 : zlV RX10 183 mX2_behind 2 := ⟨⟨zme 3 173 (by decide +kernel) rfl, zme 3 176 (by decide +kernel) rfl, zme 1 6 (by decide +kernel) rfl, by decide, by decide, by decide +kernel⟩, zme 3 174 (by decide +kernel) rfl, zme 3 175 (by decide +kernel) rfl⟩
theorem lk_X10_186 : zlV RX10 186 mX2_deathOf 1 := ⟨⟨zme 3 181 (by decide +kernel) rfl, zme 3 184 (by decide +kernel) rfl, zme 1 6 (by decide +kernel) rfl, by decide, by decide, by decide +kernel⟩, zme 3 182 (by decide +kernel) rfl, zme 3 183 (by decide +kernel) rfl⟩
theorem lk_X10_189 : zlV RX10 189 mX2_taxBehind 1 := ⟨⟨zme 3 197 (by decide +kernel) rfl, zme 3 200 (by decide +kernel) rfl, zme 1 6 (by decide +kernel) rfl, by decide, by decide, by decide +kernel⟩, zme 3 198 (by decide +kernel) rfl, zme 3 199 (by decide +kernel) rfl⟩
theorem lk_X10_192 : zlV RX10 192 mX2_heaviestBehind 1 := ⟨⟨zme 3 210 (by decide +kernel) rfl, zme 3 213 (by decide +kernel) rfl, zme 1 6 (by decide +kernel) rfl, by decide, by decide, by decide +kernel⟩, zme 3 211 (by decide +kernel) rfl, zme 3 212 (by decide +kernel) rfl⟩
theorem lk_X10_201 : zlV RX10 201 mX4_findRound 1 := ⟨⟨zme 3 222 (by decide +kernel) rfl, zme 3 225 (by decide +kernel) rfl, zme 1 8 (by decide +kernel) rfl, by decide, by decide, by decide +kernel⟩, zme 3 223 (by decide +kernel) rfl, zme 3 224 (by decide +kernel) rfl⟩
theorem lk_X10_214 : zlV RX10 214 mX4_fewestDeeds 3 := ⟨⟨zme 4 10 (by decide +kernel) rfl, zme 4 13 (by decide +kernel) rfl, zme 1 8 (by decide +kernel) rfl, by decide, by decide, by decide +kernel⟩, zme 4 11 (by decide +kernel) rfl, zme 4 12 (by decide +kernel) rfl⟩
theorem lk_X10_217 : zlV RX10 217 mX4_fewestRounds 1 := ⟨⟨zme 4 44 (by decide +kernel) rfl, zme 4 47 (by decide +kernel) rfl, zme 1 8 (by decide +kernel) rfl, by decide, by decide, by decide +kernel⟩, zme 4 45 (by decide +kernel) rfl, zme 4 46 (by decide +kernel) rfl⟩
theorem lk_X10_220 : zlV RX10 220 mX4_findHome 1 := ⟨⟨zme 4 56 (by decide +kernel) rfl, zme 4 59 (by decide +kernel) rfl, zme 1 8 (by decide +kernel) rfl, by decide, by decide, by decide +kernel⟩, zme 4 57 (by decide +kernel) rfl, zme 4 58 (by decide +kernel) rfl⟩
theorem lk_X10_232 : zlV RX10 232 mX9_unsettle 0 := ⟨⟨zme 3 20 (by decide +kernel) rfl, zme 3 23 (by decide +kernel) rfl, zme 1 10 (by decide +kernel) rfl, by decide, by decide, by decide +kernel⟩, zme 3 21 (by decide +kernel) rfl, zme 3 22 (by decide +kernel) rfl⟩
theorem lk_X10_233 : zlV RX10 233 mX9_survey 0 := ⟨⟨zme 4 76 (by decide +kernel) rfl, zme 4 79 (by decide +kernel) rfl, zme 1 10 (by decide +kernel) rfl, by decide, by decide, by decide +kernel⟩, zme 4 77 (by decide +kernel) rfl, zme 4 78 (by decide +kernel) rfl⟩
theorem lk_X10_239 : zlV RX10 239 mX9_fitting 3 := ⟨⟨zme 4 99 (by decide +kernel) rfl, zme 4 102 (by decide +kernel) rfl, zme 1 10 (by decide +kernel) rfl, by decide, by decide, by decide +kernel⟩, zme 4 100 (by decide +kernel) rfl, zme 4 101 (by decide +kernel) rfl⟩
theorem lk_X10_242 : zlV RX10 242 mX9_monthToAsk 1 := ⟨⟨zme 4 113 (by decide +kernel) rfl, zme 4 116 (by decide +kernel) rfl, zme 1 10 (by decide +kernel) rfl, by decide, by decide, by decide +kernel⟩, zme 4 114 (by decide +kernel) rfl, zme 4 115 (by decide +kernel) rfl⟩
theorem lk_X10_249 : zlV RX10 249 mX0_findLiving 2 := ⟨⟨zme 4 130 (by decide +kernel) rfl, zme 4 133 (by decide +kernel) rfl, zme 1 11 (by decide +kernel) rfl, by decide, by decide, by decide +kernel⟩, zme 4 131 (by decide +kernel) rfl, zme 4 132 (by decide +kernel) rfl⟩
theorem lk_X10_253 : zlV RX10 253 mX0_above 1 := ⟨⟨zme 4 163 (by decide +kernel) rfl, zme 4 166 (by decide +kernel) rfl, zme 1 11 (by decide +kernel) rfl, by decide, by decide, by decide +kernel⟩, zme 4 164 (by decide +kernel) rfl, zme 4 165 (by decide +kernel) rfl⟩
theorem lk_X10_257 : zlV RX10 257 mX0_below 1 := ⟨⟨zme 4 167 (by decide +kernel) rfl, zme 4 170 (by decide +kernel) rfl, zme 1 11 (by decide +kernel) rfl, by decide, by decide, by decide +kernel⟩, zme 4 168 (by decide +kernel) rfl, zme 4 169 (by decide +kernel) rfl⟩
theorem lk_X10_260 : zlV RX10 260 mX0_runYears 2 := ⟨⟨zme 4 175 (by decide +kernel) rfl, zme 4 178 (by decide +kernel) rfl, zme 1 11 (by decide +kernel) rfl, by decide, by decide, by decide +kernel⟩, zme 4 176 (by decide +kernel) rfl, zme 4 177 (by decide +kernel) rfl⟩
theorem lk_X10_264 : zlV RX10 264 mX2_worthInAll 0 := ⟨⟨zme 4 184 (by decide +kernel) rfl, zme 4 5 (by decide +kernel) rfl, zme 1 6 (by decide +kernel) rfl, by decide, by decide, by decide +kernel⟩, zme 4 3 (by decide +kernel) rfl, zme 4 4 (by decide +kernel) rfl⟩
theorem lk_X10_267 : zlV RX10 267 mX6_renew 3 := ⟨⟨zme 4 189 (by decide +kernel) rfl, zme 4 192 (by decide +kernel) rfl, zme 1 12 (by decide +kernel) rfl, by decide, by decide, by decide +kernel⟩, zme 4 190 (by decide +kernel) rfl, zme 4 191 (by decide +kernel) rfl⟩
theorem lk_X10_270 : zlV RX10 270 mX6_drop 1 := ⟨⟨zme 4 197 (by decide +kernel) rfl, zme 4 200 (by decide +kernel) rfl, zme 1 12 (by decide +kernel) rfl, by decide, by decide, by decide +kernel⟩, zme 4 198 (by decide +kernel) rfl, zme 4 199 (by decide +kernel) rfl⟩
theorem lk_X10_273 : zlV RX10 273 mX6_faultAt 3 := ⟨⟨zme 4 205 (by decide +kernel) rfl, zme 4 208 (by decide +kernel) rfl, zme 1 12 (by decide +kernel) rfl, by decide, by decide, by decide +kernel⟩, zme 4 206 (by decide +kernel) rfl, zme 4 207 (by decide +kernel) rfl⟩
theorem lk_X10_276 : zlV RX10 276 mX6_store 3 := ⟨⟨zme 4 209 (by decide +kernel) rfl, zme 4 212 (by decide +kernel) rfl, zme 1 12 (by decide +kernel) rfl, by decide, by decide, by decide +kernel⟩, zme 4 210 (by decide +kernel) rfl, zme 4 211 (by decide +kernel) rfl⟩
theorem lk_X10_283 : zlV RX10 283 mX6_alike 2 := ⟨⟨zme 4 222 (by decide +kernel) rfl, zme 4 225 (by decide +kernel) rfl, zme 1 12 (by decide +kernel) rfl, by decide, by decide, by decide +kernel⟩, zme 4 223 (by decide +kernel) rfl, zme 4 224 (by decide +kernel) rfl⟩
theorem lk_X10_287 : zlV RX10 287 mX6_holds 3 := ⟨⟨zme 4 226 (by decide +kernel) rfl, zme 3 115 (by decide +kernel) rfl, zme 1 12 (by decide +kernel) rfl, by decide, by decide, by decide +kernel⟩, zme 3 113 (by decide +kernel) rfl, zme 3 114 (by decide +kernel) rfl⟩
theorem lk_X10_290 : zlV RX10 290 mX6_move 5 := ⟨⟨zme 4 227 (by decide +kernel) rfl, zme 4 230 (by decide +kernel) rfl, zme 1 12 (by decide +kernel) rfl, by decide, by decide, by decide +kernel⟩, zme 4 228 (by decide +kernel) rfl, zme 4 229 (by decide +kernel) rfl⟩
theorem lm_X10_294 : Cond.methodLink RX10 294 Lib.Math.min.name ∈ zTB ∧ Cond.static Lib.Math.min.name ∈ zTB ∧ Cond.initialized "java/lang/Math" ∈ zTB ∧ Cond.code Lib.Math.min.name Lib.Math.min.code 2 (some .int) ∈ zTB := ⟨zme 4 236 (by decide +kernel) rfl, zme 2 194 (by decide +kernel) rfl, zme 1 3 (by decide +kernel) rfl, zme 2 195 (by decide +kernel) rfl⟩
theorem lk_X10_299 : zlV RX10 299 mX2_living 0 := ⟨⟨zme 5 1 (by decide +kernel) rfl, zme 4 51 (by decide +kernel) rfl, zme 1 6 (by decide +kernel) rfl, by decide, by decide, by decide +kernel⟩, zme 4 49 (by decide +kernel) rfl, zme 4 50 (by decide +kernel) rfl⟩
theorem lk_X10_309 : zlV RX10 309 mX10_count 1 := ⟨⟨zme 5 8 (by decide +kernel) rfl, zme 5 0 (by decide +kernel) rfl, zme 1 1 (by decide +kernel) rfl, by decide, by decide, by decide +kernel⟩, zme 4 238 (by decide +kernel) rfl, zme 4 239 (by decide +kernel) rfl⟩
theorem lk_X10_311 : zlV RX10 311 mX10_fault 1 := ⟨⟨zme 5 9 (by decide +kernel) rfl, zme 3 39 (by decide +kernel) rfl, zme 1 1 (by decide +kernel) rfl, by decide, by decide, by decide +kernel⟩, zme 3 37 (by decide +kernel) rfl, zme 3 38 (by decide +kernel) rfl⟩
theorem lk_X10_314 : zlV RX10 314 mX10_digestPerson 2 := ⟨⟨zme 5 10 (by decide +kernel) rfl, zme 5 13 (by decide +kernel) rfl, zme 1 1 (by decide +kernel) rfl, by decide, by decide, by decide +kernel⟩, zme 5 12 (by decide +kernel) rfl, zme 0 27 (by decide +kernel) rfl⟩
theorem lk_X10_318 : zlV RX10 318 mX10_deed 2 := ⟨⟨zme 5 21 (by decide +kernel) rfl, zme 3 56 (by decide +kernel) rfl, zme 1 1 (by decide +kernel) rfl, by decide, by decide, by decide +kernel⟩, zme 3 54 (by decide +kernel) rfl, zme 3 55 (by decide +kernel) rfl⟩
theorem lk_X10_321 : zlV RX10 321 mX10_was 2 := ⟨⟨zme 5 22 (by decide +kernel) rfl, zme 4 98 (by decide +kernel) rfl, zme 1 1 (by decide +kernel) rfl, by decide, by decide, by decide +kernel⟩, zme 4 96 (by decide +kernel) rfl, zme 4 97 (by decide +kernel) rfl⟩
theorem lk_X10_324 : zlV RX10 324 mX10_cloth 3 := ⟨⟨zme 5 23 (by decide +kernel) rfl, zme 3 188 (by decide +kernel) rfl, zme 1 1 (by decide +kernel) rfl, by decide, by decide, by decide +kernel⟩, zme 3 186 (by decide +kernel) rfl, zme 3 187 (by decide +kernel) rfl⟩
theorem lk_X10_327 : zlV RX10 327 mX10_thorn 1 := ⟨⟨zme 5 24 (by decide +kernel) rfl, zme 3 192 (by decide +kernel) rfl, zme 1 1 (by decide +kernel) rfl, by decide, by decide, by decide +kernel⟩, zme 3 190 (by decide +kernel) rfl, zme 3 191 (by decide +kernel) rfl⟩
theorem lk_X10_330 : zlV RX10 330 mX10_heaviest 1 := ⟨⟨zme 5 25 (by decide +kernel) rfl, zme 3 209 (by decide +kernel) rfl, zme 1 1 (by decide +kernel) rfl, by decide, by decide, by decide +kernel⟩, zme 3 207 (by decide +kernel) rfl, zme 3 208 (by decide +kernel) rfl⟩
theorem lk_X10_333 : zlV RX10 333 mX10_tax 1 := ⟨⟨zme 5 26 (by decide +kernel) rfl, zme 3 196 (by decide +kernel) rfl, zme 1 1 (by decide +kernel) rfl, by decide, by decide, by decide +kernel⟩, zme 3 194 (by decide +kernel) rfl, zme 3 195 (by decide +kernel) rfl⟩
theorem lk_X10_336 : zlV RX10 336 mX10_first 1 := ⟨⟨zme 5 27 (by decide +kernel) rfl, zme 3 217 (by decide +kernel) rfl, zme 1 1 (by decide +kernel) rfl, by decide, by decide, by decide +kernel⟩, zme 3 215 (by decide +kernel) rfl, zme 3 216 (by decide +kernel) rfl⟩
theorem lk_X10_339 : zlV RX10 339 mX10_plan 2 := ⟨⟨zme 5 28 (by decide +kernel) rfl, zme 3 221 (by decide +kernel) rfl, zme 1 1 (by decide +kernel) rfl, by decide, by decide, by decide +kernel⟩, zme 3 219 (by decide +kernel) rfl, zme 3 220 (by decide +kernel) rfl⟩
theorem lk_X10_342 : zlV RX10 342 mX10_spare 1 := ⟨⟨zme 5 29 (by decide +kernel) rfl, zme 4 43 (by decide +kernel) rfl, zme 1 1 (by decide +kernel) rfl, by decide, by decide, by decide +kernel⟩, zme 4 41 (by decide +kernel) rfl, zme 4 42 (by decide +kernel) rfl⟩
theorem lk_X10_345 : zlV RX10 345 mX10_never 0 := ⟨⟨zme 5 30 (by decide +kernel) rfl, zme 4 75 (by decide +kernel) rfl, zme 1 1 (by decide +kernel) rfl, by decide, by decide, by decide +kernel⟩, zme 4 73 (by decide +kernel) rfl, zme 4 74 (by decide +kernel) rfl⟩
theorem lk_X10_347 : zlV RX10 347 mX10_years 3 := ⟨⟨zme 5 31 (by decide +kernel) rfl, zme 4 174 (by decide +kernel) rfl, zme 1 1 (by decide +kernel) rfl, by decide, by decide, by decide +kernel⟩, zme 4 172 (by decide +kernel) rfl, zme 4 173 (by decide +kernel) rfl⟩
theorem lk_X10_350 : zlV RX10 350 mX10_person 2 := ⟨⟨zme 5 14 (by decide +kernel) rfl, zme 3 44 (by decide +kernel) rfl, zme 1 1 (by decide +kernel) rfl, by decide, by decide, by decide +kernel⟩, zme 3 42 (by decide +kernel) rfl, zme 3 43 (by decide +kernel) rfl⟩
theorem lk_X10_353 : zlV RX10 353 mX10_wool 3 := ⟨⟨zme 5 15 (by decide +kernel) rfl, zme 3 121 (by decide +kernel) rfl, zme 1 1 (by decide +kernel) rfl, by decide, by decide, by decide +kernel⟩, zme 3 119 (by decide +kernel) rfl, zme 3 120 (by decide +kernel) rfl⟩
theorem lk_X10_356 : zlV RX10 356 mX10_dies 1 := ⟨⟨zme 5 16 (by decide +kernel) rfl, zme 3 180 (by decide +kernel) rfl, zme 1 1 (by decide +kernel) rfl, by decide, by decide, by decide +kernel⟩, zme 3 178 (by decide +kernel) rfl, zme 3 179 (by decide +kernel) rfl⟩
theorem lk_X10_359 : zlV RX10 359 mX10_light 3 := ⟨⟨zme 5 17 (by decide +kernel) rfl, zme 4 9 (by decide +kernel) rfl, zme 1 1 (by decide +kernel) rfl, by decide, by decide, by decide +kernel⟩, zme 4 7 (by decide +kernel) rfl, zme 4 8 (by decide +kernel) rfl⟩
theorem lk_X10_362 : zlV RX10 362 mX10_home 2 := ⟨⟨zme 5 18 (by decide +kernel) rfl, zme 4 55 (by decide +kernel) rfl, zme 1 1 (by decide +kernel) rfl, by decide, by decide, by decide +kernel⟩, zme 4 53 (by decide +kernel) rfl, zme 4 54 (by decide +kernel) rfl⟩
theorem lk_X10_365 : zlV RX10 365 mX10_ask 1 := ⟨⟨zme 5 19 (by decide +kernel) rfl, zme 4 112 (by decide +kernel) rfl, zme 1 1 (by decide +kernel) rfl, by decide, by decide, by decide +kernel⟩, zme 4 110 (by decide +kernel) rfl, zme 4 111 (by decide +kernel) rfl⟩
theorem lk_X10_368 : zlV RX10 368 mX10_virtue 4 := ⟨⟨zme 5 20 (by decide +kernel) rfl, zme 4 128 (by decide +kernel) rfl, zme 1 1 (by decide +kernel) rfl, by decide, by decide, by decide +kernel⟩, zme 4 126 (by decide +kernel) rfl, zme 4 127 (by decide +kernel) rfl⟩
theorem lk_X10_372 : zlV RX10 372 mX7_readInto 1 := ⟨⟨zme 2 147 (by decide +kernel) rfl, zme 2 150 (by decide +kernel) rfl, zme 1 2 (by decide +kernel) rfl, by decide, by decide, by decide +kernel⟩, zme 2 148 (by decide +kernel) rfl, zme 2 149 (by decide +kernel) rfl⟩
theorem lk_X10_376 : zlV RX10 376 mX4_unsettle 0 := ⟨⟨zme 3 16 (by decide +kernel) rfl, zme 3 19 (by decide +kernel) rfl, zme 1 8 (by decide +kernel) rfl, by decide, by decide, by decide +kernel⟩, zme 3 17 (by decide +kernel) rfl, zme 3 18 (by decide +kernel) rfl⟩
theorem lk_X10_377 : zlV RX10 377 mX0_unsettle 0 := ⟨⟨zme 3 24 (by decide +kernel) rfl, zme 3 27 (by decide +kernel) rfl, zme 1 11 (by decide +kernel) rfl, by decide, by decide, by decide +kernel⟩, zme 3 25 (by decide +kernel) rfl, zme 3 26 (by decide +kernel) rfl⟩
theorem lk_X10_378 : zlV RX10 378 mX2_run 1 := ⟨⟨zme 3 126 (by decide +kernel) rfl, zme 3 129 (by decide +kernel) rfl, zme 1 6 (by decide +kernel) rfl, by decide, by decide, by decide +kernel⟩, zme 3 127 (by decide +kernel) rfl, zme 3 128 (by decide +kernel) rfl⟩
theorem lo_X11_1 : Cond.methodLink RX11 1 Lib.objectInit ∈ zTB ∧ Cond.instanceMethod Lib.objectInit ∈ zTB ∧ Cond.code Lib.objectInit ⟨#[0xb1]⟩ 1 none ∈ zTB := ⟨zme 5 37 (by decide +kernel) rfl, zme 1 28 (by decide +kernel) rfl, zme 1 29 (by decide +kernel) rfl⟩
theorem lk_X11_140 : zlS RX11 140 mX11_in 3 := ⟨⟨zme 5 215 (by decide +kernel) rfl, zme 5 217 (by decide +kernel) rfl, zme 1 14 (by decide +kernel) rfl, by decide, by decide, by decide +kernel⟩, zme 5 216 (by decide +kernel) rfl⟩
theorem lk_X11_144 : zlS RX11 144 mX11_isText 1 := ⟨⟨zme 5 212 (by decide +kernel) rfl, zme 5 214 (by decide +kernel) rfl, zme 1 14 (by decide +kernel) rfl, by decide, by decide, by decide +kernel⟩, zme 5 213 (by decide +kernel) rfl⟩
theorem lk_X11_148 : zlV RX11 148 mX11_byteAt 2 := ⟨⟨zme 6 2 (by decide +kernel) rfl, zme 6 5 (by decide +kernel) rfl, zme 1 14 (by decide +kernel) rfl, by decide, by decide, by decide +kernel⟩, zme 6 4 (by decide +kernel) rfl, zme 0 31 (by decide +kernel) rfl⟩
theorem lk_X11_158 : zlV RX11 158 mX11_readsPerson 2 := ⟨⟨zme 5 238 (by decide +kernel) rfl, zme 6 1 (by decide +kernel) rfl, zme 1 14 (by decide +kernel) rfl, by decide, by decide, by decide +kernel⟩, zme 6 0 (by decide +kernel) rfl, zme 0 30 (by decide +kernel) rfl⟩
theorem lk_X11_161 : zlV RX11 161 mX11_readsDeed 2 := ⟨⟨zme 6 6 (by decide +kernel) rfl, zme 6 9 (by decide +kernel) rfl, zme 1 14 (by decide +kernel) rfl, by decide, by decide, by decide +kernel⟩, zme 6 8 (by decide +kernel) rfl, zme 0 32 (by decide +kernel) rfl⟩
theorem lk_X11_164 : zlV RX11 164 mX11_readsParts 1 := ⟨⟨zme 5 234 (by decide +kernel) rfl, zme 5 237 (by decide +kernel) rfl, zme 1 14 (by decide +kernel) rfl, by decide, by decide, by decide +kernel⟩, zme 5 236 (by decide +kernel) rfl, zme 0 29 (by decide +kernel) rfl⟩
theorem lk_X11_168 : zlV RX11 168 mX11_faultOf 1 := ⟨⟨zme 5 230 (by decide +kernel) rfl, zme 5 233 (by decide +kernel) rfl, zme 1 14 (by decide +kernel) rfl, by decide, by decide, by decide +kernel⟩, zme 5 232 (by decide +kernel) rfl, zme 0 28 (by decide +kernel) rfl⟩
theorem lk_X11_171 : zlV RX11 171 mX11_reads 0 := ⟨⟨zme 6 18 (by decide +kernel) rfl, zme 6 21 (by decide +kernel) rfl, zme 1 14 (by decide +kernel) rfl, by decide, by decide, by decide +kernel⟩, zme 6 20 (by decide +kernel) rfl, zme 0 34 (by decide +kernel) rfl⟩
theorem lk_X11_174 : zlV RX11 174 mX11_isPerson 1 := ⟨⟨zme 6 14 (by decide +kernel) rfl, zme 6 17 (by decide +kernel) rfl, zme 1 14 (by decide +kernel) rfl, by decide, by decide, by decide +kernel⟩, zme 6 16 (by decide +kernel) rfl, zme 0 33 (by decide +kernel) rfl⟩
theorem lk_X11_177 : zlV RX11 177 mX11_personOf 2 := ⟨⟨zme 6 22 (by decide +kernel) rfl, zme 6 25 (by decide +kernel) rfl, zme 1 14 (by decide +kernel) rfl, by decide, by decide, by decide +kernel⟩, zme 6 24 (by decide +kernel) rfl, zme 0 35 (by decide +kernel) rfl⟩
theorem lk_X11_180 : zlV RX11 180 mX11_isDeed 1 := ⟨⟨zme 6 30 (by decide +kernel) rfl, zme 6 33 (by decide +kernel) rfl, zme 1 14 (by decide +kernel) rfl, by decide, by decide, by decide +kernel⟩, zme 6 32 (by decide +kernel) rfl, zme 0 36 (by decide +kernel) rfl⟩
theorem lk_X11_183 : zlV RX11 183 mX11_deedOf 2 := ⟨⟨zme 6 34 (by decide +kernel) rfl, zme 6 37 (by decide +kernel) rfl, zme 1 14 (by decide +kernel) rfl, by decide, by decide, by decide +kernel⟩, zme 6 36 (by decide +kernel) rfl, zme 0 37 (by decide +kernel) rfl⟩
theorem lk_X11_186 : zlS RX11 186 mX11_isMonth 1 := ⟨⟨zme 6 46 (by decide +kernel) rfl, zme 6 48 (by decide +kernel) rfl, zme 1 14 (by decide +kernel) rfl, by decide, by decide, by decide +kernel⟩, zme 6 47 (by decide +kernel) rfl⟩
theorem lk_X11_189 : zlS RX11 189 mX11_isCounty 1 := ⟨⟨zme 6 49 (by decide +kernel) rfl, zme 6 51 (by decide +kernel) rfl, zme 1 14 (by decide +kernel) rfl, by decide, by decide, by decide +kernel⟩, zme 6 50 (by decide +kernel) rfl⟩
theorem lk_X11_201 : zlS RX11 201 mX11_isSheet 1 := ⟨⟨zme 6 68 (by decide +kernel) rfl, zme 6 70 (by decide +kernel) rfl, zme 1 14 (by decide +kernel) rfl, by decide, by decide, by decide +kernel⟩, zme 6 69 (by decide +kernel) rfl⟩
theorem lk_X11_204 : zlV RX11 204 mX11_meets 1 := ⟨⟨zme 6 71 (by decide +kernel) rfl, zme 6 74 (by decide +kernel) rfl, zme 1 14 (by decide +kernel) rfl, by decide, by decide, by decide +kernel⟩, zme 6 73 (by decide +kernel) rfl, zme 0 38 (by decide +kernel) rfl⟩
theorem lk_X11_207 : zlV RX11 207 mX11_round 3 := ⟨⟨zme 6 75 (by decide +kernel) rfl, zme 6 45 (by decide +kernel) rfl, zme 1 14 (by decide +kernel) rfl, by decide, by decide, by decide +kernel⟩, zme 6 43 (by decide +kernel) rfl, zme 6 44 (by decide +kernel) rfl⟩
theorem lk_X11_223 : zlS RX11 223 mX11_isIn 2 := ⟨⟨zme 6 100 (by decide +kernel) rfl, zme 6 102 (by decide +kernel) rfl, zme 1 14 (by decide +kernel) rfl, by decide, by decide, by decide +kernel⟩, zme 6 101 (by decide +kernel) rfl⟩
theorem lk_X11_227 : zlV RX11 227 mX11_lives 1 := ⟨⟨zme 6 103 (by decide +kernel) rfl, zme 6 106 (by decide +kernel) rfl, zme 1 14 (by decide +kernel) rfl, by decide, by decide, by decide +kernel⟩, zme 6 105 (by decide +kernel) rfl, zme 0 44 (by decide +kernel) rfl⟩
theorem lk_X11_230 : zlS RX11 230 mX11_weightOf 1 := ⟨⟨zme 6 107 (by decide +kernel) rfl, zme 6 109 (by decide +kernel) rfl, zme 1 14 (by decide +kernel) rfl, by decide, by decide, by decide +kernel⟩, zme 6 108 (by decide +kernel) rfl⟩
theorem lk_X11_242 : zlV RX11 242 mX11_nextIn 1 := ⟨⟨zme 6 118 (by decide +kernel) rfl, zme 6 121 (by decide +kernel) rfl, zme 1 14 (by decide +kernel) rfl, by decide, by decide, by decide +kernel⟩, zme 6 120 (by decide +kernel) rfl, zme 0 47 (by decide +kernel) rfl⟩
theorem lk_X11_245 : zlV RX11 245 mX11_shears 2 := ⟨⟨zme 6 122 (by decide +kernel) rfl, zme 6 125 (by decide +kernel) rfl, zme 1 14 (by decide +kernel) rfl, by decide, by decide, by decide +kernel⟩, zme 6 124 (by decide +kernel) rfl, zme 0 48 (by decide +kernel) rfl⟩
theorem lk_X11_249 : zlV RX11 249 mX11_heaviestNow 0 := ⟨⟨zme 6 130 (by decide +kernel) rfl, zme 6 133 (by decide +kernel) rfl, zme 1 14 (by decide +kernel) rfl, by decide, by decide, by decide +kernel⟩, zme 6 132 (by decide +kernel) rfl, zme 0 50 (by decide +kernel) rfl⟩
theorem lk_X11_253 : zlV RX11 253 mX11_grows 1 := ⟨⟨zme 6 96 (by decide +kernel) rfl, zme 6 99 (by decide +kernel) rfl, zme 1 14 (by decide +kernel) rfl, by decide, by decide, by decide +kernel⟩, zme 6 98 (by decide +kernel) rfl, zme 0 43 (by decide +kernel) rfl⟩
theorem lk_X11_257 : zlV RX11 257 mX11_goes 1 := ⟨⟨zme 6 110 (by decide +kernel) rfl, zme 6 113 (by decide +kernel) rfl, zme 1 14 (by decide +kernel) rfl, by decide, by decide, by decide +kernel⟩, zme 6 112 (by decide +kernel) rfl, zme 0 45 (by decide +kernel) rfl⟩
theorem lk_X11_260 : zlV RX11 260 mX11_shearsAll 1 := ⟨⟨zme 6 114 (by decide +kernel) rfl, zme 6 117 (by decide +kernel) rfl, zme 1 14 (by decide +kernel) rfl, by decide, by decide, by decide +kernel⟩, zme 6 116 (by decide +kernel) rfl, zme 0 46 (by decide +kernel) rfl⟩
theorem lk_X11_263 : zlV RX11 263 mX11_keeps 1 := ⟨⟨zme 6 126 (by decide +kernel) rfl, zme 6 129 (by decide +kernel) rfl, zme 1 14 (by decide +kernel) rfl, by decide, by decide, by decide +kernel⟩, zme 6 128 (by decide +kernel) rfl, zme 0 49 (by decide +kernel) rfl⟩
theorem lk_X11_266 : zlV RX11 266 mX11_asTold 0 := ⟨⟨zme 6 88 (by decide +kernel) rfl, zme 6 91 (by decide +kernel) rfl, zme 1 14 (by decide +kernel) rfl, by decide, by decide, by decide +kernel⟩, zme 6 90 (by decide +kernel) rfl, zme 0 41 (by decide +kernel) rfl⟩
theorem lk_X11_269 : zlV RX11 269 mX11_runs 0 := ⟨⟨zme 6 92 (by decide +kernel) rfl, zme 6 95 (by decide +kernel) rfl, zme 1 14 (by decide +kernel) rfl, by decide, by decide, by decide +kernel⟩, zme 6 94 (by decide +kernel) rfl, zme 0 42 (by decide +kernel) rfl⟩
theorem lk_X11_272 : zlV RX11 272 mX11_runsTold 0 := ⟨⟨zme 6 84 (by decide +kernel) rfl, zme 6 87 (by decide +kernel) rfl, zme 1 14 (by decide +kernel) rfl, by decide, by decide, by decide +kernel⟩, zme 6 86 (by decide +kernel) rfl, zme 0 40 (by decide +kernel) rfl⟩
theorem lk_X11_275 : zlV RX11 275 mX11_woolOf 3 := ⟨⟨zme 6 80 (by decide +kernel) rfl, zme 6 83 (by decide +kernel) rfl, zme 1 14 (by decide +kernel) rfl, by decide, by decide, by decide +kernel⟩, zme 6 82 (by decide +kernel) rfl, zme 0 39 (by decide +kernel) rfl⟩
theorem lk_X11_278 : zlV RX11 278 mX11_diesOf 1 := ⟨⟨zme 6 138 (by decide +kernel) rfl, zme 6 141 (by decide +kernel) rfl, zme 1 14 (by decide +kernel) rfl, by decide, by decide, by decide +kernel⟩, zme 6 140 (by decide +kernel) rfl, zme 0 51 (by decide +kernel) rfl⟩
theorem lk_X11_281 : zlV RX11 281 mX11_clothOf 3 := ⟨⟨zme 6 146 (by decide +kernel) rfl, zme 6 149 (by decide +kernel) rfl, zme 1 14 (by decide +kernel) rfl, by decide, by decide, by decide +kernel⟩, zme 6 148 (by decide +kernel) rfl, zme 0 52 (by decide +kernel) rfl⟩
theorem lk_X11_284 : zlV RX11 284 mX11_thornOf 1 := ⟨⟨zme 6 154 (by decide +kernel) rfl, zme 6 157 (by decide +kernel) rfl, zme 1 14 (by decide +kernel) rfl, by decide, by decide, by decide +kernel⟩, zme 6 156 (by decide +kernel) rfl, zme 0 53 (by decide +kernel) rfl⟩
theorem lk_X11_287 : zlV RX11 287 mX11_taxOf 1 := ⟨⟨zme 6 162 (by decide +kernel) rfl, zme 6 165 (by decide +kernel) rfl, zme 1 14 (by decide +kernel) rfl, by decide, by decide, by decide +kernel⟩, zme 6 164 (by decide +kernel) rfl, zme 0 54 (by decide +kernel) rfl⟩
theorem lk_X11_290 : zlV RX11 290 mX11_heaviestOf 1 := ⟨⟨zme 6 170 (by decide +kernel) rfl, zme 6 173 (by decide +kernel) rfl, zme 1 14 (by decide +kernel) rfl, by decide, by decide, by decide +kernel⟩, zme 6 172 (by decide +kernel) rfl, zme 0 55 (by decide +kernel) rfl⟩
theorem lk_X11_293 : zlV RX11 293 mX11_firstOf 1 := ⟨⟨zme 6 178 (by decide +kernel) rfl, zme 6 181 (by decide +kernel) rfl, zme 1 14 (by decide +kernel) rfl, by decide, by decide, by decide +kernel⟩, zme 6 180 (by decide +kernel) rfl, zme 0 56 (by decide +kernel) rfl⟩
theorem lk_X11_296 : zlV RX11 296 mX11_worthAll 0 := ⟨⟨zme 6 190 (by decide +kernel) rfl, zme 6 193 (by decide +kernel) rfl, zme 1 14 (by decide +kernel) rfl, by decide, by decide, by decide +kernel⟩, zme 6 192 (by decide +kernel) rfl, zme 0 58 (by decide +kernel) rfl⟩
theorem lk_X11_299 : zlV RX11 299 mX11_planOf 2 := ⟨⟨zme 6 186 (by decide +kernel) rfl, zme 6 189 (by decide +kernel) rfl, zme 1 14 (by decide +kernel) rfl, by decide, by decide, by decide +kernel⟩, zme 6 188 (by decide +kernel) rfl, zme 0 57 (by decide +kernel) rfl⟩
theorem lk_X11_302 : zlV RX11 302 mX11_isLight 3 := ⟨⟨zme 6 202 (by decide +kernel) rfl, zme 6 205 (by decide +kernel) rfl, zme 1 14 (by decide +kernel) rfl, by decide, by decide, by decide +kernel⟩, zme 6 204 (by decide +kernel) rfl, zme 0 60 (by decide +kernel) rfl⟩
theorem lk_X11_305 : zlV RX11 305 mX11_lightBy 2 := ⟨⟨zme 6 198 (by decide +kernel) rfl, zme 6 201 (by decide +kernel) rfl, zme 1 14 (by decide +kernel) rfl, by decide, by decide, by decide +kernel⟩, zme 6 200 (by decide +kernel) rfl, zme 0 59 (by decide +kernel) rfl⟩
theorem lk_X11_308 : zlV RX11 308 mX11_ofRow 2 := ⟨⟨zme 6 206 (by decide +kernel) rfl, zme 6 209 (by decide +kernel) rfl, zme 1 14 (by decide +kernel) rfl, by decide, by decide, by decide +kernel⟩, zme 6 208 (by decide +kernel) rfl, zme 0 61 (by decide +kernel) rfl⟩
theorem lk_X11_311 : zlV RX11 311 mX11_livesMany 0 := ⟨⟨zme 6 222 (by decide +kernel) rfl, zme 6 225 (by decide +kernel) rfl, zme 1 14 (by decide +kernel) rfl, by decide, by decide, by decide +kernel⟩, zme 6 224 (by decide +kernel) rfl, zme 0 64 (by decide +kernel) rfl⟩
theorem lk_X11_314 : zlV RX11 314 mX11_isSpared 1 := ⟨⟨zme 6 218 (by decide +kernel) rfl, zme 6 221 (by decide +kernel) rfl, zme 1 14 (by decide +kernel) rfl, by decide, by decide, by decide +kernel⟩, zme 6 220 (by decide +kernel) rfl, zme 0 63 (by decide +kernel) rfl⟩
theorem lk_X11_317 : zlV RX11 317 mX11_spareBy 0 := ⟨⟨zme 6 214 (by decide +kernel) rfl, zme 6 217 (by decide +kernel) rfl, zme 1 14 (by decide +kernel) rfl, by decide, by decide, by decide +kernel⟩, zme 6 216 (by decide +kernel) rfl, zme 0 62 (by decide +kernel) rfl⟩
theorem lk_X11_320 : zlV RX11 320 mX11_homeOf 2 := ⟨⟨zme 6 230 (by decide +kernel) rfl, zme 6 233 (by decide +kernel) rfl, zme 1 14 (by decide +kernel) rfl, by decide, by decide, by decide +kernel⟩, zme 6 232 (by decide +kernel) rfl, zme 0 65 (by decide +kernel) rfl⟩
theorem lk_X11_326 : zlV RX11 326 mX11_isSeen 0 := ⟨⟨zme 7 10 (by decide +kernel) rfl, zme 7 13 (by decide +kernel) rfl, zme 1 14 (by decide +kernel) rfl, by decide, by decide, by decide +kernel⟩, zme 7 12 (by decide +kernel) rfl, zme 0 67 (by decide +kernel) rfl⟩
theorem lk_X11_330 : zlV RX11 330 mX11_neverNow 0 := ⟨⟨zme 7 6 (by decide +kernel) rfl, zme 7 9 (by decide +kernel) rfl, zme 1 14 (by decide +kernel) rfl, by decide, by decide, by decide +kernel⟩, zme 7 8 (by decide +kernel) rfl, zme 0 66 (by decide +kernel) rfl⟩
theorem lk_X11_333 : zlV RX11 333 mX11_wasOf 2 := ⟨⟨zme 7 18 (by decide +kernel) rfl, zme 7 21 (by decide +kernel) rfl, zme 1 14 (by decide +kernel) rfl, by decide, by decide, by decide +kernel⟩, zme 7 20 (by decide +kernel) rfl, zme 0 68 (by decide +kernel) rfl⟩
theorem lk_X11_336 : zlV RX11 336 mX11_askOf 1 := ⟨⟨zme 7 26 (by decide +kernel) rfl, zme 7 29 (by decide +kernel) rfl, zme 1 14 (by decide +kernel) rfl, by decide, by decide, by decide +kernel⟩, zme 7 28 (by decide +kernel) rfl, zme 0 69 (by decide +kernel) rfl⟩
theorem lk_X11_339 : zlS RX11 339 mX11_lowest 3 := ⟨⟨zme 7 38 (by decide +kernel) rfl, zme 7 40 (by decide +kernel) rfl, zme 1 14 (by decide +kernel) rfl, by decide, by decide, by decide +kernel⟩, zme 7 39 (by decide +kernel) rfl⟩
theorem lk_X11_343 : zlV RX11 343 mX11_virtueOf 4 := ⟨⟨zme 7 34 (by decide +kernel) rfl, zme 7 37 (by decide +kernel) rfl, zme 1 14 (by decide +kernel) rfl, by decide, by decide, by decide +kernel⟩, zme 7 36 (by decide +kernel) rfl, zme 0 70 (by decide +kernel) rfl⟩
theorem lk_X11_347 : zlS RX11 347 mX11_no 1 := ⟨⟨zme 7 41 (by decide +kernel) rfl, zme 7 43 (by decide +kernel) rfl, zme 1 14 (by decide +kernel) rfl, by decide, by decide, by decide +kernel⟩, zme 7 42 (by decide +kernel) rfl⟩
theorem lk_X11_352 : zlV RX11 352 mX11_yearsOf 3 := ⟨⟨zme 7 49 (by decide +kernel) rfl, zme 7 52 (by decide +kernel) rfl, zme 1 14 (by decide +kernel) rfl, by decide, by decide, by decide +kernel⟩, zme 7 51 (by decide +kernel) rfl, zme 0 71 (by decide +kernel) rfl⟩
theorem lk_X11_358 : zlV RX11 358 mX11_lacks 3 := ⟨⟨zme 7 66 (by decide +kernel) rfl, zme 7 69 (by decide +kernel) rfl, zme 1 14 (by decide +kernel) rfl, by decide, by decide, by decide +kernel⟩, zme 7 68 (by decide +kernel) rfl, zme 0 72 (by decide +kernel) rfl⟩
theorem lk_X11_361 : zlV RX11 361 mX11_keep 3 := ⟨⟨zme 7 70 (by decide +kernel) rfl, zme 7 73 (by decide +kernel) rfl, zme 1 14 (by decide +kernel) rfl, by decide, by decide, by decide +kernel⟩, zme 7 72 (by decide +kernel) rfl, zme 0 73 (by decide +kernel) rfl⟩
theorem lk_X11_366 : zlV RX11 366 mX11_sumOf 1 := ⟨⟨zme 7 91 (by decide +kernel) rfl, zme 7 94 (by decide +kernel) rfl, zme 1 14 (by decide +kernel) rfl, by decide, by decide, by decide +kernel⟩, zme 7 93 (by decide +kernel) rfl, zme 0 74 (by decide +kernel) rfl⟩
theorem lk_X11_371 : zlV RX11 371 mX11_monthDigest 3 := ⟨⟨zme 7 106 (by decide +kernel) rfl, zme 7 109 (by decide +kernel) rfl, zme 1 14 (by decide +kernel) rfl, by decide, by decide, by decide +kernel⟩, zme 7 108 (by decide +kernel) rfl, zme 0 76 (by decide +kernel) rfl⟩
theorem lk_X11_377 : zlV RX11 377 mX11_count 1 := ⟨⟨zme 7 101 (by decide +kernel) rfl, zme 7 90 (by decide +kernel) rfl, zme 1 14 (by decide +kernel) rfl, by decide, by decide, by decide +kernel⟩, zme 7 88 (by decide +kernel) rfl, zme 7 89 (by decide +kernel) rfl⟩
theorem lk_X11_380 : zlV RX11 380 mX11_personDigest 2 := ⟨⟨zme 7 102 (by decide +kernel) rfl, zme 7 105 (by decide +kernel) rfl, zme 1 14 (by decide +kernel) rfl, by decide, by decide, by decide +kernel⟩, zme 7 104 (by decide +kernel) rfl, zme 0 75 (by decide +kernel) rfl⟩
theorem lk_X11_384 : zlV RX11 384 mX11_deedDigest 2 := ⟨⟨zme 7 110 (by decide +kernel) rfl, zme 7 113 (by decide +kernel) rfl, zme 1 14 (by decide +kernel) rfl, by decide, by decide, by decide +kernel⟩, zme 7 112 (by decide +kernel) rfl, zme 0 77 (by decide +kernel) rfl⟩
theorem lk_X11_387 : zlV RX11 387 mX11_countyDigest 2 := ⟨⟨zme 7 114 (by decide +kernel) rfl, zme 7 117 (by decide +kernel) rfl, zme 1 14 (by decide +kernel) rfl, by decide, by decide, by decide +kernel⟩, zme 7 116 (by decide +kernel) rfl, zme 0 78 (by decide +kernel) rfl⟩
theorem lk_X11_390 : zlV RX11 390 mX11_thornDigest 2 := ⟨⟨zme 7 118 (by decide +kernel) rfl, zme 7 121 (by decide +kernel) rfl, zme 1 14 (by decide +kernel) rfl, by decide, by decide, by decide +kernel⟩, zme 7 120 (by decide +kernel) rfl, zme 0 79 (by decide +kernel) rfl⟩
theorem lo_X2_3 : Cond.methodLink RX2 3 Lib.objectInit ∈ zTB ∧ Cond.instanceMethod Lib.objectInit ∈ zTB ∧ Cond.code Lib.objectInit ⟨#[0xb1]⟩ 1 none ∈ zTB := ⟨zme 1 152 (by decide +kernel) rfl, zme 1 28 (by decide +kernel) rfl, zme 1 29 (by decide +kernel) rfl⟩
theorem lk_X2_32 : zlV RX2 32 mX2_begin 0 := ⟨⟨zme 3 130 (by decide +kernel) rfl, zme 3 133 (by decide +kernel) rfl, zme 1 6 (by decide +kernel) rfl, by decide, by decide, by decide +kernel⟩, zme 3 132 (by decide +kernel) rfl, zme 0 8 (by decide +kernel) rfl⟩
theorem lk_X2_41 : zlS RX2 41 mX2_monthsOf 1 := ⟨⟨zme 3 135 (by decide +kernel) rfl, zme 3 137 (by decide +kernel) rfl, zme 1 6 (by decide +kernel) rfl, by decide, by decide, by decide +kernel⟩, zme 3 136 (by decide +kernel) rfl⟩
theorem lk_X2_54 : zlV RX2 54 mX2_doDeeds 1 := ⟨⟨zme 3 138 (by decide +kernel) rfl, zme 3 141 (by decide +kernel) rfl, zme 1 6 (by decide +kernel) rfl, by decide, by decide, by decide +kernel⟩, zme 3 140 (by decide +kernel) rfl, zme 0 9 (by decide +kernel) rfl⟩
theorem lk_X2_58 : zlV RX2 58 mX2_moult 1 := ⟨⟨zme 3 149 (by decide +kernel) rfl, zme 3 152 (by decide +kernel) rfl, zme 1 6 (by decide +kernel) rfl, by decide, by decide, by decide +kernel⟩, zme 3 151 (by decide +kernel) rfl, zme 0 11 (by decide +kernel) rfl⟩
theorem lk_X2_62 : zlV RX2 62 mX2_travel 1 := ⟨⟨zme 3 153 (by decide +kernel) rfl, zme 3 156 (by decide +kernel) rfl, zme 1 6 (by decide +kernel) rfl, by decide, by decide, by decide +kernel⟩, zme 3 155 (by decide +kernel) rfl, zme 0 12 (by decide +kernel) rfl⟩
theorem lk_X2_65 : zlV RX2 65 mX2_makeRounds 2 := ⟨⟨zme 3 158 (by decide +kernel) rfl, zme 3 161 (by decide +kernel) rfl, zme 1 6 (by decide +kernel) rfl, by decide, by decide, by decide +kernel⟩, zme 3 160 (by decide +kernel) rfl, zme 0 13 (by decide +kernel) rfl⟩
theorem ly_X2_69 : Cond.methodLink RX2 69 arraycopyName ∈ zTB ∧ Cond.native arraycopyName ∈ zTB ∧ Cond.static arraycopyName ∈ zTB ∧ Cond.initialized "java/lang/System" ∈ zTB := ⟨zme 3 170 (by decide +kernel) rfl, zme 3 172 (by decide +kernel) rfl, zme 3 171 (by decide +kernel) rfl, zme 1 20 (by decide +kernel) rfl⟩
theorem lk_X2_75 : zlS RX2 75 mJ7_fill_53178 2 := ⟨⟨zme 3 134 (by decide +kernel) rfl, zme 2 82 (by decide +kernel) rfl, zme 1 13 (by decide +kernel) rfl, by decide, by decide, by decide +kernel⟩, zme 2 81 (by decide +kernel) rfl⟩
theorem lk_X2_98 : zlV RX2 98 mX2_lives 1 := ⟨⟨zme 3 142 (by decide +kernel) rfl, zme 3 145 (by decide +kernel) rfl, zme 1 6 (by decide +kernel) rfl, by decide, by decide, by decide +kernel⟩, zme 3 144 (by decide +kernel) rfl, zme 0 10 (by decide +kernel) rfl⟩
theorem lk_X2_102 : zlS RX2 102 mX2_growth 2 := ⟨⟨zme 3 146 (by decide +kernel) rfl, zme 3 148 (by decide +kernel) rfl, zme 1 6 (by decide +kernel) rfl, by decide, by decide, by decide +kernel⟩, zme 3 147 (by decide +kernel) rfl⟩
theorem lm_X2_109 : Cond.methodLink RX2 109 Lib.Math.min.name ∈ zTB ∧ Cond.static Lib.Math.min.name ∈ zTB ∧ Cond.initialized "java/lang/Math" ∈ zTB ∧ Cond.code Lib.Math.min.name Lib.Math.min.code 2 (some .int) ∈ zTB := ⟨zme 3 157 (by decide +kernel) rfl, zme 2 194 (by decide +kernel) rfl, zme 1 3 (by decide +kernel) rfl, zme 2 195 (by decide +kernel) rfl⟩
theorem lk_X2_114 : zlV RX2 114 mX2_woolliestIn 1 := ⟨⟨zme 3 162 (by decide +kernel) rfl, zme 3 165 (by decide +kernel) rfl, zme 1 6 (by decide +kernel) rfl, by decide, by decide, by decide +kernel⟩, zme 3 164 (by decide +kernel) rfl, zme 0 14 (by decide +kernel) rfl⟩
theorem lk_X2_117 : zlV RX2 117 mX2_shear 3 := ⟨⟨zme 3 166 (by decide +kernel) rfl, zme 3 169 (by decide +kernel) rfl, zme 1 6 (by decide +kernel) rfl, by decide, by decide, by decide +kernel⟩, zme 3 168 (by decide +kernel) rfl, zme 0 15 (by decide +kernel) rfl⟩
theorem lk_X2_124 : zlV RX2 124 mX2_livesBehind 2 := ⟨⟨zme 3 201 (by decide +kernel) rfl, zme 3 204 (by decide +kernel) rfl, zme 1 6 (by decide +kernel) rfl, by decide, by decide, by decide +kernel⟩, zme 3 203 (by decide +kernel) rfl, zme 0 16 (by decide +kernel) rfl⟩
theorem lk_X2_128 : zlV RX2 128 mX2_behind 2 := ⟨⟨zme 3 205 (by decide +kernel) rfl, zme 3 176 (by decide +kernel) rfl, zme 1 6 (by decide +kernel) rfl, by decide, by decide, by decide +kernel⟩, zme 3 174 (by decide +kernel) rfl, zme 3 175 (by decide +kernel) rfl⟩
theorem lo_X3_1 : Cond.methodLink RX3 1 Lib.objectInit ∈ zTB ∧ Cond.instanceMethod Lib.objectInit ∈ zTB ∧ Cond.code Lib.objectInit ⟨#[0xb1]⟩ 1 none ∈ zTB := ⟨zme 1 179 (by decide +kernel) rfl, zme 1 28 (by decide +kernel) rfl, zme 1 29 (by decide +kernel) rfl⟩
theorem lk_X3_9 : zlN RX3 9 mX8_init 0 := ⟨⟨_, List.mem_of_getElem? (i := 1) rfl, rfl, rfl, rfl⟩, rfl, rfl, zme 1 67 (by decide +kernel) rfl, zme 1 68 (by decide +kernel) rfl, zme 1 4 (by decide +kernel) rfl, by decide, by decide, by decide +kernel⟩
theorem lk_X3_18 : zlI RX3 18 mX2_init 1 := ⟨⟨zme 1 183 (by decide +kernel) rfl, zme 1 151 (by decide +kernel) rfl, zme 1 6 (by decide +kernel) rfl, by decide, by decide, by decide +kernel⟩, rfl, rfl, zme 1 150 (by decide +kernel) rfl⟩
theorem lk_X3_28 : zlV RX3 28 mX8_become 1 := ⟨⟨zme 3 230 (by decide +kernel) rfl, zme 3 233 (by decide +kernel) rfl, zme 1 4 (by decide +kernel) rfl, by decide, by decide, by decide +kernel⟩, zme 3 231 (by decide +kernel) rfl, zme 3 232 (by decide +kernel) rfl⟩
theorem lo_X4_3 : Cond.methodLink RX4 3 Lib.objectInit ∈ zTB ∧ Cond.instanceMethod Lib.objectInit ∈ zTB ∧ Cond.code Lib.objectInit ⟨#[0xb1]⟩ 1 none ∈ zTB := ⟨zme 1 209 (by decide +kernel) rfl, zme 1 28 (by decide +kernel) rfl, zme 1 29 (by decide +kernel) rfl⟩
theorem lk_X4_11 : zlN RX4 11 mX1_init 0 := ⟨⟨_, List.mem_of_getElem? (i := 2) rfl, rfl, rfl, rfl⟩, rfl, rfl, zme 1 213 (by decide +kernel) rfl, zme 1 214 (by decide +kernel) rfl, zme 1 9 (by decide +kernel) rfl, by decide, by decide, by decide +kernel⟩
theorem lk_X4_51 : zlV RX4 51 mX3_afresh 0 := ⟨⟨zme 3 226 (by decide +kernel) rfl, zme 3 229 (by decide +kernel) rfl, zme 1 7 (by decide +kernel) rfl, by decide, by decide, by decide +kernel⟩, zme 3 227 (by decide +kernel) rfl, zme 3 228 (by decide +kernel) rfl⟩
theorem lk_X4_66 : zlV RX4 66 mX5_append 3 := ⟨⟨zme 4 0 (by decide +kernel) rfl, zme 3 11 (by decide +kernel) rfl, zme 1 5 (by decide +kernel) rfl, by decide, by decide, by decide +kernel⟩, zme 3 9 (by decide +kernel) rfl, zme 3 10 (by decide +kernel) rfl⟩
theorem lk_X4_76 : zlV RX4 76 mX2_run 1 := ⟨⟨zme 4 1 (by decide +kernel) rfl, zme 3 129 (by decide +kernel) rfl, zme 1 6 (by decide +kernel) rfl, by decide, by decide, by decide +kernel⟩, zme 3 127 (by decide +kernel) rfl, zme 3 128 (by decide +kernel) rfl⟩
theorem lk_X4_82 : zlV RX4 82 mX2_worthInAll 0 := ⟨⟨zme 4 2 (by decide +kernel) rfl, zme 4 5 (by decide +kernel) rfl, zme 1 6 (by decide +kernel) rfl, by decide, by decide, by decide +kernel⟩, zme 4 3 (by decide +kernel) rfl, zme 4 4 (by decide +kernel) rfl⟩
theorem lk_X4_86 : zlV RX4 86 mX1_begin 0 := ⟨⟨zme 4 14 (by decide +kernel) rfl, zme 4 17 (by decide +kernel) rfl, zme 1 9 (by decide +kernel) rfl, by decide, by decide, by decide +kernel⟩, zme 4 15 (by decide +kernel) rfl, zme 4 16 (by decide +kernel) rfl⟩
theorem lk_X4_92 : zlV RX4 92 mX1_takeOutOf 1 := ⟨⟨zme 4 18 (by decide +kernel) rfl, zme 4 21 (by decide +kernel) rfl, zme 1 9 (by decide +kernel) rfl, by decide, by decide, by decide +kernel⟩, zme 4 19 (by decide +kernel) rfl, zme 4 20 (by decide +kernel) rfl⟩
theorem lk_X4_96 : zlV RX4 96 mX4_measure 1 := ⟨⟨zme 4 26 (by decide +kernel) rfl, zme 4 29 (by decide +kernel) rfl, zme 1 8 (by decide +kernel) rfl, by decide, by decide, by decide +kernel⟩, zme 4 28 (by decide +kernel) rfl, zme 0 17 (by decide +kernel) rfl⟩
theorem lk_X4_99 : zlV RX4 99 mX1_tell 1 := ⟨⟨zme 4 32 (by decide +kernel) rfl, zme 4 35 (by decide +kernel) rfl, zme 1 9 (by decide +kernel) rfl, by decide, by decide, by decide +kernel⟩, zme 4 33 (by decide +kernel) rfl, zme 4 34 (by decide +kernel) rfl⟩
theorem lk_X4_109 : zlV RX4 109 mX1_goOn 1 := ⟨⟨zme 4 36 (by decide +kernel) rfl, zme 4 39 (by decide +kernel) rfl, zme 1 9 (by decide +kernel) rfl, by decide, by decide, by decide +kernel⟩, zme 4 37 (by decide +kernel) rfl, zme 4 38 (by decide +kernel) rfl⟩
theorem lk_X4_116 : zlV RX4 116 mX2_behind 2 := ⟨⟨zme 4 30 (by decide +kernel) rfl, zme 3 176 (by decide +kernel) rfl, zme 1 6 (by decide +kernel) rfl, by decide, by decide, by decide +kernel⟩, zme 3 174 (by decide +kernel) rfl, zme 3 175 (by decide +kernel) rfl⟩
theorem lm_X4_120 : Cond.methodLink RX4 120 Lib.Math.max.name ∈ zTB ∧ Cond.static Lib.Math.max.name ∈ zTB ∧ Cond.initialized "java/lang/Math" ∈ zTB ∧ Cond.code Lib.Math.max.name Lib.Math.max.code 2 (some .int) ∈ zTB := ⟨zme 4 31 (by decide +kernel) rfl, zme 1 40 (by decide +kernel) rfl, zme 1 3 (by decide +kernel) rfl, zme 1 41 (by decide +kernel) rfl⟩
theorem lk_X4_125 : zlV RX4 125 mX2_living 0 := ⟨⟨zme 4 48 (by decide +kernel) rfl, zme 4 51 (by decide +kernel) rfl, zme 1 6 (by decide +kernel) rfl, by decide, by decide, by decide +kernel⟩, zme 4 49 (by decide +kernel) rfl, zme 4 50 (by decide +kernel) rfl⟩
theorem lk_X4_128 : zlV RX4 128 mX5_setCell 3 := ⟨⟨zme 4 60 (by decide +kernel) rfl, zme 4 63 (by decide +kernel) rfl, zme 1 5 (by decide +kernel) rfl, by decide, by decide, by decide +kernel⟩, zme 4 61 (by decide +kernel) rfl, zme 4 62 (by decide +kernel) rfl⟩
theorem lo_X5_3 : Cond.methodLink RX5 3 Lib.objectInit ∈ zTB ∧ Cond.instanceMethod Lib.objectInit ∈ zTB ∧ Cond.code Lib.objectInit ⟨#[0xb1]⟩ 1 none ∈ zTB := ⟨zme 1 75 (by decide +kernel) rfl, zme 1 28 (by decide +kernel) rfl, zme 1 29 (by decide +kernel) rfl⟩
theorem lm_X5_15 : Cond.methodLink RX5 15 Lib.Math.max.name ∈ zTB ∧ Cond.static Lib.Math.max.name ∈ zTB ∧ Cond.initialized "java/lang/Math" ∈ zTB ∧ Cond.code Lib.Math.max.name Lib.Math.max.code 2 (some .int) ∈ zTB := ⟨zme 1 76 (by decide +kernel) rfl, zme 1 40 (by decide +kernel) rfl, zme 1 3 (by decide +kernel) rfl, zme 1 41 (by decide +kernel) rfl⟩
theorem ly_X5_31 : Cond.methodLink RX5 31 arraycopyName ∈ zTB ∧ Cond.native arraycopyName ∈ zTB ∧ Cond.static arraycopyName ∈ zTB ∧ Cond.initialized "java/lang/System" ∈ zTB := ⟨zme 3 239 (by decide +kernel) rfl, zme 3 172 (by decide +kernel) rfl, zme 3 171 (by decide +kernel) rfl, zme 1 20 (by decide +kernel) rfl⟩
theorem lm_X5_37 : Cond.methodLink RX5 37 Lib.Math.min.name ∈ zTB ∧ Cond.static Lib.Math.min.name ∈ zTB ∧ Cond.initialized "java/lang/Math" ∈ zTB ∧ Cond.code Lib.Math.min.name Lib.Math.min.code 2 (some .int) ∈ zTB := ⟨zme 3 238 (by decide +kernel) rfl, zme 2 194 (by decide +kernel) rfl, zme 1 3 (by decide +kernel) rfl, zme 2 195 (by decide +kernel) rfl⟩
theorem lo_X6_3 : Cond.methodLink RX6 3 Lib.objectInit ∈ zTB ∧ Cond.instanceMethod Lib.objectInit ∈ zTB ∧ Cond.code Lib.objectInit ⟨#[0xb1]⟩ 1 none ∈ zTB := ⟨zme 2 79 (by decide +kernel) rfl, zme 1 28 (by decide +kernel) rfl, zme 1 29 (by decide +kernel) rfl⟩
theorem lk_X6_25 : zlS RX6 25 mJ7_fill_53178 2 := ⟨⟨zme 2 80 (by decide +kernel) rfl, zme 2 82 (by decide +kernel) rfl, zme 1 13 (by decide +kernel) rfl, by decide, by decide, by decide +kernel⟩, zme 2 81 (by decide +kernel) rfl⟩
theorem lk_X6_31 : zlV RX6 31 mX6_isLost 1 := ⟨⟨zme 3 107 (by decide +kernel) rfl, zme 3 98 (by decide +kernel) rfl, zme 1 12 (by decide +kernel) rfl, by decide, by decide, by decide +kernel⟩, zme 3 96 (by decide +kernel) rfl, zme 3 97 (by decide +kernel) rfl⟩
theorem lk_X6_35 : zlV RX6 35 mX6_length 1 := ⟨⟨zme 3 116 (by decide +kernel) rfl, zme 3 106 (by decide +kernel) rfl, zme 1 12 (by decide +kernel) rfl, by decide, by decide, by decide +kernel⟩, zme 3 104 (by decide +kernel) rfl, zme 3 105 (by decide +kernel) rfl⟩
theorem lk_X6_39 : zlV RX6 39 mX6_holds 3 := ⟨⟨zme 3 112 (by decide +kernel) rfl, zme 3 115 (by decide +kernel) rfl, zme 1 12 (by decide +kernel) rfl, by decide, by decide, by decide +kernel⟩, zme 3 113 (by decide +kernel) rfl, zme 3 114 (by decide +kernel) rfl⟩
theorem ly_X6_43 : Cond.methodLink RX6 43 arraycopyName ∈ zTB ∧ Cond.native arraycopyName ∈ zTB ∧ Cond.static arraycopyName ∈ zTB ∧ Cond.initialized "java/lang/System" ∈ zTB := ⟨zme 4 231 (by decide +kernel) rfl, zme 3 172 (by decide +kernel) rfl, zme 3 171 (by decide +kernel) rfl, zme 1 20 (by decide +kernel) rfl⟩
theorem lo_X7_3 : Cond.methodLink RX7 3 Lib.objectInit ∈ zTB ∧ Cond.instanceMethod Lib.objectInit ∈ zTB ∧ Cond.code Lib.objectInit ⟨#[0xb1]⟩ 1 none ∈ zTB := ⟨zme 1 38 (by decide +kernel) rfl, zme 1 28 (by decide +kernel) rfl, zme 1 29 (by decide +kernel) rfl⟩
theorem lm_X7_15 : Cond.methodLink RX7 15 Lib.Math.max.name ∈ zTB ∧ Cond.static Lib.Math.max.name ∈ zTB ∧ Cond.initialized "java/lang/Math" ∈ zTB ∧ Cond.code Lib.Math.max.name Lib.Math.max.code 2 (some .int) ∈ zTB := ⟨zme 1 39 (by decide +kernel) rfl, zme 1 40 (by decide +kernel) rfl, zme 1 3 (by decide +kernel) rfl, zme 1 41 (by decide +kernel) rfl⟩
theorem lk_X7_35 : zlV RX7 35 mX7_meaningAt 1 := ⟨⟨zme 2 155 (by decide +kernel) rfl, zme 2 158 (by decide +kernel) rfl, zme 1 2 (by decide +kernel) rfl, by decide, by decide, by decide +kernel⟩, zme 2 157 (by decide +kernel) rfl, zme 0 2 (by decide +kernel) rfl⟩
theorem lk_X7_44 : zlV RX7 44 mX7_faultPlace 0 := ⟨⟨zme 2 151 (by decide +kernel) rfl, zme 2 154 (by decide +kernel) rfl, zme 1 2 (by decide +kernel) rfl, by decide, by decide, by decide +kernel⟩, zme 2 152 (by decide +kernel) rfl, zme 2 153 (by decide +kernel) rfl⟩
theorem lk_X7_48 : zlV RX7 48 mX5_append 3 := ⟨⟨zme 3 8 (by decide +kernel) rfl, zme 3 11 (by decide +kernel) rfl, zme 1 5 (by decide +kernel) rfl, by decide, by decide, by decide +kernel⟩, zme 3 9 (by decide +kernel) rfl, zme 3 10 (by decide +kernel) rfl⟩
theorem lk_X7_52 : zlV RX7 52 mX7_signsAt 1 := ⟨⟨zme 2 159 (by decide +kernel) rfl, zme 2 162 (by decide +kernel) rfl, zme 1 2 (by decide +kernel) rfl, by decide, by decide, by decide +kernel⟩, zme 2 161 (by decide +kernel) rfl, zme 0 3 (by decide +kernel) rfl⟩
theorem lk_X7_56 : zlV RX7 56 mJ0_indexOf_0f7a4 1 := ⟨⟨zme 2 164 (by decide +kernel) rfl, zme 2 167 (by decide +kernel) rfl, zme 1 15 (by decide +kernel) rfl, by decide, by decide, by decide +kernel⟩, zme 2 165 (by decide +kernel) rfl, zme 2 166 (by decide +kernel) rfl⟩
theorem lo_X8_3 : Cond.methodLink RX8 3 Lib.objectInit ∈ zTB ∧ Cond.instanceMethod Lib.objectInit ∈ zTB ∧ Cond.code Lib.objectInit ⟨#[0xb1]⟩ 1 none ∈ zTB := ⟨zme 1 69 (by decide +kernel) rfl, zme 1 28 (by decide +kernel) rfl, zme 1 29 (by decide +kernel) rfl⟩
theorem lk_X8_11 : zlI RX8 11 (mX5_init 0) 1 := ⟨⟨zme 1 72 (by decide +kernel) rfl, zme 1 74 (by decide +kernel) rfl, zme 1 5 (by decide +kernel) rfl, by decide, by decide, by decide +kernel⟩, rfl, rfl, zme 1 73 (by decide +kernel) rfl⟩
theorem lk_X8_39 : zlV RX8 39 mX5_become 1 := ⟨⟨zme 3 234 (by decide +kernel) rfl, zme 3 237 (by decide +kernel) rfl, zme 1 5 (by decide +kernel) rfl, by decide, by decide, by decide +kernel⟩, zme 3 235 (by decide +kernel) rfl, zme 3 236 (by decide +kernel) rfl⟩
theorem lo_X9_3 : Cond.methodLink RX9 3 Lib.objectInit ∈ zTB ∧ Cond.instanceMethod Lib.objectInit ∈ zTB ∧ Cond.code Lib.objectInit ⟨#[0xb1]⟩ 1 none ∈ zTB := ⟨zme 2 27 (by decide +kernel) rfl, zme 1 28 (by decide +kernel) rfl, zme 1 29 (by decide +kernel) rfl⟩
theorem lk_X9_11 : zlI RX9 11 (mX5_init 0) 1 := ⟨⟨zme 2 29 (by decide +kernel) rfl, zme 1 74 (by decide +kernel) rfl, zme 1 5 (by decide +kernel) rfl, by decide, by decide, by decide +kernel⟩, rfl, rfl, zme 1 73 (by decide +kernel) rfl⟩
theorem lk_X9_50 : zlV RX9 50 mX3_afresh 0 := ⟨⟨zme 4 80 (by decide +kernel) rfl, zme 3 229 (by decide +kernel) rfl, zme 1 7 (by decide +kernel) rfl, by decide, by decide, by decide +kernel⟩, zme 3 227 (by decide +kernel) rfl, zme 3 228 (by decide +kernel) rfl⟩
theorem lk_X9_56 : zlV RX9 56 mX5_takeOut 1 := ⟨⟨zme 4 81 (by decide +kernel) rfl, zme 4 25 (by decide +kernel) rfl, zme 1 5 (by decide +kernel) rfl, by decide, by decide, by decide +kernel⟩, zme 4 23 (by decide +kernel) rfl, zme 4 24 (by decide +kernel) rfl⟩
theorem lk_X9_63 : zlV RX9 63 mX2_run 1 := ⟨⟨zme 4 82 (by decide +kernel) rfl, zme 3 129 (by decide +kernel) rfl, zme 1 6 (by decide +kernel) rfl, by decide, by decide, by decide +kernel⟩, zme 3 127 (by decide +kernel) rfl, zme 3 128 (by decide +kernel) rfl⟩
theorem lk_X9_68 : zlV RX9 68 mX9_keepWools 1 := ⟨⟨zme 4 83 (by decide +kernel) rfl, zme 4 86 (by decide +kernel) rfl, zme 1 10 (by decide +kernel) rfl, by decide, by decide, by decide +kernel⟩, zme 4 85 (by decide +kernel) rfl, zme 0 18 (by decide +kernel) rfl⟩
theorem lk_X9_71 : zlV RX9 71 mX9_comesOut 0 := ⟨⟨zme 4 91 (by decide +kernel) rfl, zme 4 94 (by decide +kernel) rfl, zme 1 10 (by decide +kernel) rfl, by decide, by decide, by decide +kernel⟩, zme 4 93 (by decide +kernel) rfl, zme 0 19 (by decide +kernel) rfl⟩
theorem lk_X9_78 : zlS RX9 78 mX9_placeOf 3 := ⟨⟨zme 4 87 (by decide +kernel) rfl, zme 4 89 (by decide +kernel) rfl, zme 1 10 (by decide +kernel) rfl, by decide, by decide, by decide +kernel⟩, zme 4 88 (by decide +kernel) rfl⟩
theorem lk_X9_82 : zlV RX9 82 mX2_behind 2 := ⟨⟨zme 4 90 (by decide +kernel) rfl, zme 3 176 (by decide +kernel) rfl, zme 1 6 (by decide +kernel) rfl, by decide, by decide, by decide +kernel⟩, zme 3 174 (by decide +kernel) rfl, zme 3 175 (by decide +kernel) rfl⟩
theorem lk_X9_86 : zlV RX9 86 mX9_lastSeen 0 := ⟨⟨zme 4 103 (by decide +kernel) rfl, zme 4 106 (by decide +kernel) rfl, zme 1 10 (by decide +kernel) rfl, by decide, by decide, by decide +kernel⟩, zme 4 105 (by decide +kernel) rfl, zme 0 20 (by decide +kernel) rfl⟩
theorem lk_X9_90 : zlV RX9 90 mX5_setCell 3 := ⟨⟨zme 4 108 (by decide +kernel) rfl, zme 4 63 (by decide +kernel) rfl, zme 1 5 (by decide +kernel) rfl, by decide, by decide, by decide +kernel⟩, zme 4 61 (by decide +kernel) rfl, zme 4 62 (by decide +kernel) rfl⟩
theorem lm_X9_97 : Cond.methodLink RX9 97 Lib.Math.max.name ∈ zTB ∧ Cond.static Lib.Math.max.name ∈ zTB ∧ Cond.initialized "java/lang/Math" ∈ zTB ∧ Cond.code Lib.Math.max.name Lib.Math.max.code 2 (some .int) ∈ zTB := ⟨zme 4 107 (by decide +kernel) rfl, zme 1 40 (by decide +kernel) rfl, zme 1 3 (by decide +kernel) rfl, zme 1 41 (by decide +kernel) rfl⟩
theorem lk_X9_108 : zlV RX9 108 mX9_mostAlike 2 := ⟨⟨zme 4 117 (by decide +kernel) rfl, zme 4 120 (by decide +kernel) rfl, zme 1 10 (by decide +kernel) rfl, by decide, by decide, by decide +kernel⟩, zme 4 119 (by decide +kernel) rfl, zme 0 21 (by decide +kernel) rfl⟩
theorem lk_X9_111 : zlV RX9 111 mX9_manyLike 3 := ⟨⟨zme 4 121 (by decide +kernel) rfl, zme 4 124 (by decide +kernel) rfl, zme 1 10 (by decide +kernel) rfl, by decide, by decide, by decide +kernel⟩, zme 4 123 (by decide +kernel) rfl, zme 0 22 (by decide +kernel) rfl⟩
theorem ln_X10_17 (n : Nat) : zlI RX10 17 (mX7_init n) 4 := lk_X10_17
theorem ln_X8_11 (n : Nat) : zlI RX8 11 (mX5_init n) 1 := lk_X8_11
theorem ln_X9_11 (n : Nat) : zlI RX9 11 (mX5_init n) 1 := lk_X9_11
end
