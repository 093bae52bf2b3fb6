section
/-- a private method of a class that the tables say can be made, by its rows of tables_1 -/
def lw_okq (q : MethodName × Nat) : Prop := (q.1.cls ≠ "java/lang/invoke/MethodHandle" ∧ q.1.cls ≠ "java/lang/invoke/VarHandle") ∧ Cond.instantiable q.1.cls q.2 ∈ tables_1 ∧ Cond.privateMethod q.1 ∈ tables_1 ∧ Cond.instanceMethod q.1 ∈ tables_1
theorem lw_p0 : lw_okq (⟨"ShornSins", "textOf", "(I)LShornSins$Text;"⟩, 10) := ⟨⟨by decide +kernel, by decide +kernel⟩, List.mem_of_getElem? (i := 23) (by decide +kernel), List.mem_of_getElem? (i := 376) (by decide +kernel), List.mem_of_getElem? (i := 377) (by decide +kernel)⟩
theorem lw_p1 : lw_okq (⟨"ShornSins", "readTexts", "()V"⟩, 10) := ⟨⟨by decide +kernel, by decide +kernel⟩, List.mem_of_getElem? (i := 23) (by decide +kernel), List.mem_of_getElem? (i := 384) (by decide +kernel), List.mem_of_getElem? (i := 385) (by decide +kernel)⟩
theorem lw_p2 : lw_okq (⟨"ShornSins$Text", "meaningAt", "(I)I"⟩, 5) := ⟨⟨by decide +kernel, by decide +kernel⟩, List.mem_of_getElem? (i := 31) (by decide +kernel), List.mem_of_getElem? (i := 396) (by decide +kernel), List.mem_of_getElem? (i := 397) (by decide +kernel)⟩
theorem lw_p3 : lw_okq (⟨"ShornSins$Text", "signsAt", "(I)Ljava/lang/String;"⟩, 5) := ⟨⟨by decide +kernel, by decide +kernel⟩, List.mem_of_getElem? (i := 31) (by decide +kernel), List.mem_of_getElem? (i := 400) (by decide +kernel), List.mem_of_getElem? (i := 401) (by decide +kernel)⟩
theorem lw_p4 : lw_okq (⟨"ShornSins", "unsettle", "()V"⟩, 10) := ⟨⟨by decide +kernel, by decide +kernel⟩, List.mem_of_getElem? (i := 23) (by decide +kernel), List.mem_of_getElem? (i := 493) (by decide +kernel), List.mem_of_getElem? (i := 494) (by decide +kernel)⟩
theorem lw_p5 : lw_okq (⟨"ShornSins", "isPerson", "(I)Z"⟩, 10) := ⟨⟨by decide +kernel, by decide +kernel⟩, List.mem_of_getElem? (i := 23) (by decide +kernel), List.mem_of_getElem? (i := 526) (by decide +kernel), List.mem_of_getElem? (i := 527) (by decide +kernel)⟩
theorem lw_p6 : lw_okq (⟨"ShornSins", "isDeed", "(I)Z"⟩, 10) := ⟨⟨by decide +kernel, by decide +kernel⟩, List.mem_of_getElem? (i := 23) (by decide +kernel), List.mem_of_getElem? (i := 538) (by decide +kernel), List.mem_of_getElem? (i := 539) (by decide +kernel)⟩
theorem lw_p7 : lw_okq (⟨"ShornSins", "settle", "()V"⟩, 10) := ⟨⟨by decide +kernel, by decide +kernel⟩, List.mem_of_getElem? (i := 23) (by decide +kernel), List.mem_of_getElem? (i := 603) (by decide +kernel), List.mem_of_getElem? (i := 604) (by decide +kernel)⟩
theorem lw_p8 : lw_okq (⟨"ShornSins$Course", "begin", "()V"⟩, 6) := ⟨⟨by decide +kernel, by decide +kernel⟩, List.mem_of_getElem? (i := 148) (by decide +kernel), List.mem_of_getElem? (i := 611) (by decide +kernel), List.mem_of_getElem? (i := 612) (by decide +kernel)⟩
theorem lw_p9 : lw_okq (⟨"ShornSins$Course", "doDeeds", "(I)I"⟩, 6) := ⟨⟨by decide +kernel, by decide +kernel⟩, List.mem_of_getElem? (i := 148) (by decide +kernel), List.mem_of_getElem? (i := 619) (by decide +kernel), List.mem_of_getElem? (i := 620) (by decide +kernel)⟩
theorem lw_p10 : lw_okq (⟨"ShornSins$Course", "lives", "(I)Z"⟩, 6) := ⟨⟨by decide +kernel, by decide +kernel⟩, List.mem_of_getElem? (i := 148) (by decide +kernel), List.mem_of_getElem? (i := 623) (by decide +kernel), List.mem_of_getElem? (i := 624) (by decide +kernel)⟩
theorem lw_p11 : lw_okq (⟨"ShornSins$Course", "moult", "(I)V"⟩, 6) := ⟨⟨by decide +kernel, by decide +kernel⟩, List.mem_of_getElem? (i := 148) (by decide +kernel), List.mem_of_getElem? (i := 630) (by decide +kernel), List.mem_of_getElem? (i := 631) (by decide +kernel)⟩
theorem lw_p12 : lw_okq (⟨"ShornSins$Course", "travel", "(I)V"⟩, 6) := ⟨⟨by decide +kernel, by decide +kernel⟩, List.mem_of_getElem? (i := 148) (by decide +kernel), List.mem_of_getElem? (i := 634) (by decide +kernel), List.mem_of_getElem? (i := 635) (by decide +kernel)⟩
theorem lw_p13 : lw_okq (⟨"ShornSins$Course", "makeRounds", "(IZ)V"⟩, 6) := ⟨⟨by decide +kernel, by decide +kernel⟩, List.mem_of_getElem? (i := 148) (by decide +kernel), List.mem_of_getElem? (i := 639) (by decide +kernel), List.mem_of_getElem? (i := 640) (by decide +kernel)⟩
theorem lw_p14 : lw_okq (⟨"ShornSins$Course", "woolliestIn", "(I)I"⟩, 6) := ⟨⟨by decide +kernel, by decide +kernel⟩, List.mem_of_getElem? (i := 148) (by decide +kernel), List.mem_of_getElem? (i := 643) (by decide +kernel), List.mem_of_getElem? (i := 644) (by decide +kernel)⟩
theorem lw_p15 : lw_okq (⟨"ShornSins$Course", "shear", "(IIZ)V"⟩, 6) := ⟨⟨by decide +kernel, by decide +kernel⟩, List.mem_of_getElem? (i := 148) (by decide +kernel), List.mem_of_getElem? (i := 647) (by decide +kernel), List.mem_of_getElem? (i := 648) (by decide +kernel)⟩
def lw_privs_1 : List (MethodName × Nat) := [(⟨"ShornSins", "textOf", "(I)LShornSins$Text;"⟩, 10), (⟨"ShornSins", "readTexts", "()V"⟩, 10), (⟨"ShornSins$Text", "meaningAt", "(I)I"⟩, 5), (⟨"ShornSins$Text", "signsAt", "(I)Ljava/lang/String;"⟩, 5), (⟨"ShornSins", "unsettle", "()V"⟩, 10), (⟨"ShornSins", "isPerson", "(I)Z"⟩, 10), (⟨"ShornSins", "isDeed", "(I)Z"⟩, 10), (⟨"ShornSins", "settle", "()V"⟩, 10), (⟨"ShornSins$Course", "begin", "()V"⟩, 6), (⟨"ShornSins$Course", "doDeeds", "(I)I"⟩, 6), (⟨"ShornSins$Course", "lives", "(I)Z"⟩, 6), (⟨"ShornSins$Course", "moult", "(I)V"⟩, 6), (⟨"ShornSins$Course", "travel", "(I)V"⟩, 6), (⟨"ShornSins$Course", "makeRounds", "(IZ)V"⟩, 6), (⟨"ShornSins$Course", "woolliestIn", "(I)I"⟩, 6), (⟨"ShornSins$Course", "shear", "(IIZ)V"⟩, 6)]
theorem lw_r1 : ∀ q ∈ lw_privs_1, lw_okq q := List.forall_mem_cons.mpr ⟨lw_p0, List.forall_mem_cons.mpr ⟨lw_p1, List.forall_mem_cons.mpr ⟨lw_p2, List.forall_mem_cons.mpr ⟨lw_p3, List.forall_mem_cons.mpr ⟨lw_p4, List.forall_mem_cons.mpr ⟨lw_p5, List.forall_mem_cons.mpr ⟨lw_p6, List.forall_mem_cons.mpr ⟨lw_p7, List.forall_mem_cons.mpr ⟨lw_p8, List.forall_mem_cons.mpr ⟨lw_p9, List.forall_mem_cons.mpr ⟨lw_p10, List.forall_mem_cons.mpr ⟨lw_p11, List.forall_mem_cons.mpr ⟨lw_p12, List.forall_mem_cons.mpr ⟨lw_p13, List.forall_mem_cons.mpr ⟨lw_p14, List.forall_mem_cons.mpr ⟨lw_p15, fun _ h => absurd h List.not_mem_nil⟩⟩⟩⟩⟩⟩⟩⟩⟩⟩⟩⟩⟩⟩⟩⟩
theorem lw_p16 : lw_okq (⟨"ShornSins$Course", "livesBehind", "(II)Z"⟩, 6) := ⟨⟨by decide +kernel, by decide +kernel⟩, List.mem_of_getElem? (i := 148) (by decide +kernel), List.mem_of_getElem? (i := 682) (by decide +kernel), List.mem_of_getElem? (i := 683) (by decide +kernel)⟩
theorem lw_p17 : lw_okq (⟨"ShornSins$Plans", "measure", "(I)V"⟩, 11) := ⟨⟨by decide +kernel, by decide +kernel⟩, List.mem_of_getElem? (i := 205) (by decide +kernel), List.mem_of_getElem? (i := 747) (by decide +kernel), List.mem_of_getElem? (i := 748) (by decide +kernel)⟩
theorem lw_p18 : lw_okq (⟨"ShornSins$Witness", "keepWools", "(I)V"⟩, 5) := ⟨⟨by decide +kernel, by decide +kernel⟩, List.mem_of_getElem? (i := 263) (by decide +kernel), List.mem_of_getElem? (i := 804) (by decide +kernel), List.mem_of_getElem? (i := 805) (by decide +kernel)⟩
theorem lw_p19 : lw_okq (⟨"ShornSins$Witness", "comesOut", "()Z"⟩, 5) := ⟨⟨by decide +kernel, by decide +kernel⟩, List.mem_of_getElem? (i := 263) (by decide +kernel), List.mem_of_getElem? (i := 812) (by decide +kernel), List.mem_of_getElem? (i := 813) (by decide +kernel)⟩
theorem lw_p20 : lw_okq (⟨"ShornSins$Witness", "lastSeen", "()I"⟩, 5) := ⟨⟨by decide +kernel, by decide +kernel⟩, List.mem_of_getElem? (i := 263) (by decide +kernel), List.mem_of_getElem? (i := 824) (by decide +kernel), List.mem_of_getElem? (i := 825) (by decide +kernel)⟩
theorem lw_p21 : lw_okq (⟨"ShornSins$Witness", "mostAlike", "(II)I"⟩, 5) := ⟨⟨by decide +kernel, by decide +kernel⟩, List.mem_of_getElem? (i := 263) (by decide +kernel), List.mem_of_getElem? (i := 838) (by decide +kernel), List.mem_of_getElem? (i := 839) (by decide +kernel)⟩
theorem lw_p22 : lw_okq (⟨"ShornSins$Witness", "manyLike", "(III)I"⟩, 5) := ⟨⟨by decide +kernel, by decide +kernel⟩, List.mem_of_getElem? (i := 263) (by decide +kernel), List.mem_of_getElem? (i := 842) (by decide +kernel), List.mem_of_getElem? (i := 843) (by decide +kernel)⟩
theorem lw_p23 : lw_okq (⟨"ShornSins$Chances", "supposeFrosts", "(II)V"⟩, 6) := ⟨⟨by decide +kernel, by decide +kernel⟩, List.mem_of_getElem? (i := 289) (by decide +kernel), List.mem_of_getElem? (i := 869) (by decide +kernel), List.mem_of_getElem? (i := 870) (by decide +kernel)⟩
theorem lw_p24 : lw_okq (⟨"ShornSins$Chances", "addToLiving", "(J)V"⟩, 6) := ⟨⟨by decide +kernel, by decide +kernel⟩, List.mem_of_getElem? (i := 289) (by decide +kernel), List.mem_of_getElem? (i := 875) (by decide +kernel), List.mem_of_getElem? (i := 876) (by decide +kernel)⟩
theorem lw_p25 : lw_okq (⟨"ShornSins$Chances", "reduce", "(I)V"⟩, 6) := ⟨⟨by decide +kernel, by decide +kernel⟩, List.mem_of_getElem? (i := 289) (by decide +kernel), List.mem_of_getElem? (i := 880) (by decide +kernel), List.mem_of_getElem? (i := 881) (by decide +kernel)⟩
theorem lw_p26 : lw_okq (⟨"ShornSins$Chances", "lot", "(I)I"⟩, 6) := ⟨⟨by decide +kernel, by decide +kernel⟩, List.mem_of_getElem? (i := 289) (by decide +kernel), List.mem_of_getElem? (i := 900) (by decide +kernel), List.mem_of_getElem? (i := 901) (by decide +kernel)⟩
theorem lw_p27 : lw_okq (⟨"ShornSins", "digestPerson", "(JI)J"⟩, 10) := ⟨⟨by decide +kernel, by decide +kernel⟩, List.mem_of_getElem? (i := 23) (by decide +kernel), List.mem_of_getElem? (i := 971) (by decide +kernel), List.mem_of_getElem? (i := 972) (by decide +kernel)⟩
theorem lw_p28 : lw_okq (⟨"ShornSinsModel", "faultOf", "(I)I"⟩, 56) := ⟨⟨by decide +kernel, by decide +kernel⟩, List.mem_of_getElem? (i := 993) (by decide +kernel), List.mem_of_getElem? (i := 1191) (by decide +kernel), List.mem_of_getElem? (i := 1192) (by decide +kernel)⟩
theorem lw_p29 : lw_okq (⟨"ShornSinsModel", "readsParts", "(I)I"⟩, 56) := ⟨⟨by decide +kernel, by decide +kernel⟩, List.mem_of_getElem? (i := 993) (by decide +kernel), List.mem_of_getElem? (i := 1195) (by decide +kernel), List.mem_of_getElem? (i := 1196) (by decide +kernel)⟩
theorem lw_p30 : lw_okq (⟨"ShornSinsModel", "readsPerson", "(II)I"⟩, 56) := ⟨⟨by decide +kernel, by decide +kernel⟩, List.mem_of_getElem? (i := 993) (by decide +kernel), List.mem_of_getElem? (i := 1199) (by decide +kernel), List.mem_of_getElem? (i := 1200) (by decide +kernel)⟩
theorem lw_p31 : lw_okq (⟨"ShornSinsModel", "byteAt", "(II)I"⟩, 56) := ⟨⟨by decide +kernel, by decide +kernel⟩, List.mem_of_getElem? (i := 993) (by decide +kernel), List.mem_of_getElem? (i := 1203) (by decide +kernel), List.mem_of_getElem? (i := 1204) (by decide +kernel)⟩
def lw_privs_2 : List (MethodName × Nat) := [(⟨"ShornSins$Course", "livesBehind", "(II)Z"⟩, 6), (⟨"ShornSins$Plans", "measure", "(I)V"⟩, 11), (⟨"ShornSins$Witness", "keepWools", "(I)V"⟩, 5), (⟨"ShornSins$Witness", "comesOut", "()Z"⟩, 5), (⟨"ShornSins$Witness", "lastSeen", "()I"⟩, 5), (⟨"ShornSins$Witness", "mostAlike", "(II)I"⟩, 5), (⟨"ShornSins$Witness", "manyLike", "(III)I"⟩, 5), (⟨"ShornSins$Chances", "supposeFrosts", "(II)V"⟩, 6), (⟨"ShornSins$Chances", "addToLiving", "(J)V"⟩, 6), (⟨"ShornSins$Chances", "reduce", "(I)V"⟩, 6), (⟨"ShornSins$Chances", "lot", "(I)I"⟩, 6), (⟨"ShornSins", "digestPerson", "(JI)J"⟩, 10), (⟨"ShornSinsModel", "faultOf", "(I)I"⟩, 56), (⟨"ShornSinsModel", "readsParts", "(I)I"⟩, 56), (⟨"ShornSinsModel", "readsPerson", "(II)I"⟩, 56), (⟨"ShornSinsModel", "byteAt", "(II)I"⟩, 56)]
theorem lw_r2 : ∀ q ∈ lw_privs_2, lw_okq q := List.forall_mem_cons.mpr ⟨lw_p16, List.forall_mem_cons.mpr ⟨lw_p17, List.forall_mem_cons.mpr ⟨lw_p18, List.forall_mem_cons.mpr ⟨lw_p19, List.forall_mem_cons.mpr ⟨lw_p20, List.forall_mem_cons.mpr ⟨lw_p21, List.forall_mem_cons.mpr ⟨lw_p22, List.forall_mem_cons.mpr ⟨lw_p23, List.forall_mem_cons.mpr ⟨lw_p24, List.forall_mem_cons.mpr ⟨lw_p25, List.forall_mem_cons.mpr ⟨lw_p26, List.forall_mem_cons.mpr ⟨lw_p27, List.forall_mem_cons.mpr ⟨lw_p28, List.forall_mem_cons.mpr ⟨lw_p29, List.forall_mem_cons.mpr ⟨lw_p30, List.forall_mem_cons.mpr ⟨lw_p31, fun _ h => absurd h List.not_mem_nil⟩⟩⟩⟩⟩⟩⟩⟩⟩⟩⟩⟩⟩⟩⟩⟩
theorem lw_p32 : lw_okq (⟨"ShornSinsModel", "readsDeed", "(II)I"⟩, 56) := ⟨⟨by decide +kernel, by decide +kernel⟩, List.mem_of_getElem? (i := 993) (by decide +kernel), List.mem_of_getElem? (i := 1207) (by decide +kernel), List.mem_of_getElem? (i := 1208) (by decide +kernel)⟩
theorem lw_p33 : lw_okq (⟨"ShornSinsModel", "isPerson", "(I)Z"⟩, 56) := ⟨⟨by decide +kernel, by decide +kernel⟩, List.mem_of_getElem? (i := 993) (by decide +kernel), List.mem_of_getElem? (i := 1215) (by decide +kernel), List.mem_of_getElem? (i := 1216) (by decide +kernel)⟩
theorem lw_p34 : lw_okq (⟨"ShornSinsModel", "reads", "()V"⟩, 56) := ⟨⟨by decide +kernel, by decide +kernel⟩, List.mem_of_getElem? (i := 993) (by decide +kernel), List.mem_of_getElem? (i := 1219) (by decide +kernel), List.mem_of_getElem? (i := 1220) (by decide +kernel)⟩
theorem lw_p35 : lw_okq (⟨"ShornSinsModel", "personOf", "(II)I"⟩, 56) := ⟨⟨by decide +kernel, by decide +kernel⟩, List.mem_of_getElem? (i := 993) (by decide +kernel), List.mem_of_getElem? (i := 1223) (by decide +kernel), List.mem_of_getElem? (i := 1224) (by decide +kernel)⟩
theorem lw_p36 : lw_okq (⟨"ShornSinsModel", "isDeed", "(I)Z"⟩, 56) := ⟨⟨by decide +kernel, by decide +kernel⟩, List.mem_of_getElem? (i := 993) (by decide +kernel), List.mem_of_getElem? (i := 1231) (by decide +kernel), List.mem_of_getElem? (i := 1232) (by decide +kernel)⟩
theorem lw_p37 : lw_okq (⟨"ShornSinsModel", "deedOf", "(II)I"⟩, 56) := ⟨⟨by decide +kernel, by decide +kernel⟩, List.mem_of_getElem? (i := 993) (by decide +kernel), List.mem_of_getElem? (i := 1235) (by decide +kernel), List.mem_of_getElem? (i := 1236) (by decide +kernel)⟩
theorem lw_p38 : lw_okq (⟨"ShornSinsModel", "meets", "(I)I"⟩, 56) := ⟨⟨by decide +kernel, by decide +kernel⟩, List.mem_of_getElem? (i := 993) (by decide +kernel), List.mem_of_getElem? (i := 1272) (by decide +kernel), List.mem_of_getElem? (i := 1273) (by decide +kernel)⟩
theorem lw_p39 : lw_okq (⟨"ShornSinsModel", "woolOf", "(III)I"⟩, 56) := ⟨⟨by decide +kernel, by decide +kernel⟩, List.mem_of_getElem? (i := 993) (by decide +kernel), List.mem_of_getElem? (i := 1281) (by decide +kernel), List.mem_of_getElem? (i := 1282) (by decide +kernel)⟩
theorem lw_p40 : lw_okq (⟨"ShornSinsModel", "runsTold", "()V"⟩, 56) := ⟨⟨by decide +kernel, by decide +kernel⟩, List.mem_of_getElem? (i := 993) (by decide +kernel), List.mem_of_getElem? (i := 1285) (by decide +kernel), List.mem_of_getElem? (i := 1286) (by decide +kernel)⟩
theorem lw_p41 : lw_okq (⟨"ShornSinsModel", "asTold", "()V"⟩, 56) := ⟨⟨by decide +kernel, by decide +kernel⟩, List.mem_of_getElem? (i := 993) (by decide +kernel), List.mem_of_getElem? (i := 1289) (by decide +kernel), List.mem_of_getElem? (i := 1290) (by decide +kernel)⟩
theorem lw_p42 : lw_okq (⟨"ShornSinsModel", "runs", "()V"⟩, 56) := ⟨⟨by decide +kernel, by decide +kernel⟩, List.mem_of_getElem? (i := 993) (by decide +kernel), List.mem_of_getElem? (i := 1293) (by decide +kernel), List.mem_of_getElem? (i := 1294) (by decide +kernel)⟩
theorem lw_p43 : lw_okq (⟨"ShornSinsModel", "grows", "(I)V"⟩, 56) := ⟨⟨by decide +kernel, by decide +kernel⟩, List.mem_of_getElem? (i := 993) (by decide +kernel), List.mem_of_getElem? (i := 1297) (by decide +kernel), List.mem_of_getElem? (i := 1298) (by decide +kernel)⟩
theorem lw_p44 : lw_okq (⟨"ShornSinsModel", "lives", "(I)Z"⟩, 56) := ⟨⟨by decide +kernel, by decide +kernel⟩, List.mem_of_getElem? (i := 993) (by decide +kernel), List.mem_of_getElem? (i := 1304) (by decide +kernel), List.mem_of_getElem? (i := 1305) (by decide +kernel)⟩
theorem lw_p45 : lw_okq (⟨"ShornSinsModel", "goes", "(I)V"⟩, 56) := ⟨⟨by decide +kernel, by decide +kernel⟩, List.mem_of_getElem? (i := 993) (by decide +kernel), List.mem_of_getElem? (i := 1311) (by decide +kernel), List.mem_of_getElem? (i := 1312) (by decide +kernel)⟩
theorem lw_p46 : lw_okq (⟨"ShornSinsModel", "shearsAll", "(I)V"⟩, 56) := ⟨⟨by decide +kernel, by decide +kernel⟩, List.mem_of_getElem? (i := 993) (by decide +kernel), List.mem_of_getElem? (i := 1315) (by decide +kernel), List.mem_of_getElem? (i := 1316) (by decide +kernel)⟩
theorem lw_p47 : lw_okq (⟨"ShornSinsModel", "nextIn", "(I)I"⟩, 56) := ⟨⟨by decide +kernel, by decide +kernel⟩, List.mem_of_getElem? (i := 993) (by decide +kernel), List.mem_of_getElem? (i := 1319) (by decide +kernel), List.mem_of_getElem? (i := 1320) (by decide +kernel)⟩
def lw_privs_3 : List (MethodName × Nat) := [(⟨"ShornSinsModel", "readsDeed", "(II)I"⟩, 56), (⟨"ShornSinsModel", "isPerson", "(I)Z"⟩, 56), (⟨"ShornSinsModel", "reads", "()V"⟩, 56), (⟨"ShornSinsModel", "personOf", "(II)I"⟩, 56), (⟨"ShornSinsModel", "isDeed", "(I)Z"⟩, 56), (⟨"ShornSinsModel", "deedOf", "(II)I"⟩, 56), (⟨"ShornSinsModel", "meets", "(I)I"⟩, 56), (⟨"ShornSinsModel", "woolOf", "(III)I"⟩, 56), (⟨"ShornSinsModel", "runsTold", "()V"⟩, 56), (⟨"ShornSinsModel", "asTold", "()V"⟩, 56), (⟨"ShornSinsModel", "runs", "()V"⟩, 56), (⟨"ShornSinsModel", "grows", "(I)V"⟩, 56), (⟨"ShornSinsModel", "lives", "(I)Z"⟩, 56), (⟨"ShornSinsModel", "goes", "(I)V"⟩, 56), (⟨"ShornSinsModel", "shearsAll", "(I)V"⟩, 56), (⟨"ShornSinsModel", "nextIn", "(I)I"⟩, 56)]
theorem lw_r3 : ∀ q ∈ lw_privs_3, lw_okq q := List.forall_mem_cons.mpr ⟨lw_p32, List.forall_mem_cons.mpr ⟨lw_p33, List.forall_mem_cons.mpr ⟨lw_p34, List.forall_mem_cons.mpr ⟨lw_p35, List.forall_mem_cons.mpr ⟨lw_p36, List.forall_mem_cons.mpr ⟨lw_p37, List.forall_mem_cons.mpr ⟨lw_p38, List.forall_mem_cons.mpr ⟨lw_p39, List.forall_mem_cons.mpr ⟨lw_p40, List.forall_mem_cons.mpr ⟨lw_p41, List.forall_mem_cons.mpr ⟨lw_p42, List.forall_mem_cons.mpr ⟨lw_p43, List.forall_mem_cons.mpr ⟨lw_p44, List.forall_mem_cons.mpr ⟨lw_p45, List.forall_mem_cons.mpr ⟨lw_p46, List.forall_mem_cons.mpr ⟨lw_p47, fun _ h => absurd h List.not_mem_nil⟩⟩⟩⟩⟩⟩⟩⟩⟩⟩⟩⟩⟩⟩⟩⟩
theorem lw_p48 : lw_okq (⟨"ShornSinsModel", "shears", "(II)V"⟩, 56) := ⟨⟨by decide +kernel, by decide +kernel⟩, List.mem_of_getElem? (i := 993) (by decide +kernel), List.mem_of_getElem? (i := 1323) (by decide +kernel), List.mem_of_getElem? (i := 1324) (by decide +kernel)⟩
theorem lw_p49 : lw_okq (⟨"ShornSinsModel", "keeps", "(I)V"⟩, 56) := ⟨⟨by decide +kernel, by decide +kernel⟩, List.mem_of_getElem? (i := 993) (by decide +kernel), List.mem_of_getElem? (i := 1327) (by decide +kernel), List.mem_of_getElem? (i := 1328) (by decide +kernel)⟩
theorem lw_p50 : lw_okq (⟨"ShornSinsModel", "heaviestNow", "()I"⟩, 56) := ⟨⟨by decide +kernel, by decide +kernel⟩, List.mem_of_getElem? (i := 993) (by decide +kernel), List.mem_of_getElem? (i := 1331) (by decide +kernel), List.mem_of_getElem? (i := 1332) (by decide +kernel)⟩
theorem lw_p51 : lw_okq (⟨"ShornSinsModel", "diesOf", "(I)I"⟩, 56) := ⟨⟨by decide +kernel, by decide +kernel⟩, List.mem_of_getElem? (i := 993) (by decide +kernel), List.mem_of_getElem? (i := 1339) (by decide +kernel), List.mem_of_getElem? (i := 1340) (by decide +kernel)⟩
theorem lw_p52 : lw_okq (⟨"ShornSinsModel", "clothOf", "(III)I"⟩, 56) := ⟨⟨by decide +kernel, by decide +kernel⟩, List.mem_of_getElem? (i := 993) (by decide +kernel), List.mem_of_getElem? (i := 1347) (by decide +kernel), List.mem_of_getElem? (i := 1348) (by decide +kernel)⟩
theorem lw_p53 : lw_okq (⟨"ShornSinsModel", "thornOf", "(I)I"⟩, 56) := ⟨⟨by decide +kernel, by decide +kernel⟩, List.mem_of_getElem? (i := 993) (by decide +kernel), List.mem_of_getElem? (i := 1355) (by decide +kernel), List.mem_of_getElem? (i := 1356) (by decide +kernel)⟩
theorem lw_p54 : lw_okq (⟨"ShornSinsModel", "taxOf", "(I)I"⟩, 56) := ⟨⟨by decide +kernel, by decide +kernel⟩, List.mem_of_getElem? (i := 993) (by decide +kernel), List.mem_of_getElem? (i := 1363) (by decide +kernel), List.mem_of_getElem? (i := 1364) (by decide +kernel)⟩
theorem lw_p55 : lw_okq (⟨"ShornSinsModel", "heaviestOf", "(I)I"⟩, 56) := ⟨⟨by decide +kernel, by decide +kernel⟩, List.mem_of_getElem? (i := 993) (by decide +kernel), List.mem_of_getElem? (i := 1371) (by decide +kernel), List.mem_of_getElem? (i := 1372) (by decide +kernel)⟩
theorem lw_p56 : lw_okq (⟨"ShornSinsModel", "firstOf", "(I)I"⟩, 56) := ⟨⟨by decide +kernel, by decide +kernel⟩, List.mem_of_getElem? (i := 993) (by decide +kernel), List.mem_of_getElem? (i := 1379) (by decide +kernel), List.mem_of_getElem? (i := 1380) (by decide +kernel)⟩
theorem lw_p57 : lw_okq (⟨"ShornSinsModel", "planOf", "(II)I"⟩, 56) := ⟨⟨by decide +kernel, by decide +kernel⟩, List.mem_of_getElem? (i := 993) (by decide +kernel), List.mem_of_getElem? (i := 1387) (by decide +kernel), List.mem_of_getElem? (i := 1388) (by decide +kernel)⟩
theorem lw_p58 : lw_okq (⟨"ShornSinsModel", "worthAll", "()I"⟩, 56) := ⟨⟨by decide +kernel, by decide +kernel⟩, List.mem_of_getElem? (i := 993) (by decide +kernel), List.mem_of_getElem? (i := 1391) (by decide +kernel), List.mem_of_getElem? (i := 1392) (by decide +kernel)⟩
theorem lw_p59 : lw_okq (⟨"ShornSinsModel", "lightBy", "(II)I"⟩, 56) := ⟨⟨by decide +kernel, by decide +kernel⟩, List.mem_of_getElem? (i := 993) (by decide +kernel), List.mem_of_getElem? (i := 1399) (by decide +kernel), List.mem_of_getElem? (i := 1400) (by decide +kernel)⟩
theorem lw_p60 : lw_okq (⟨"ShornSinsModel", "isLight", "(III)Z"⟩, 56) := ⟨⟨by decide +kernel, by decide +kernel⟩, List.mem_of_getElem? (i := 993) (by decide +kernel), List.mem_of_getElem? (i := 1403) (by decide +kernel), List.mem_of_getElem? (i := 1404) (by decide +kernel)⟩
theorem lw_p61 : lw_okq (⟨"ShornSinsModel", "ofRow", "(II)I"⟩, 56) := ⟨⟨by decide +kernel, by decide +kernel⟩, List.mem_of_getElem? (i := 993) (by decide +kernel), List.mem_of_getElem? (i := 1407) (by decide +kernel), List.mem_of_getElem? (i := 1408) (by decide +kernel)⟩
theorem lw_p62 : lw_okq (⟨"ShornSinsModel", "spareBy", "()I"⟩, 56) := ⟨⟨by decide +kernel, by decide +kernel⟩, List.mem_of_getElem? (i := 993) (by decide +kernel), List.mem_of_getElem? (i := 1415) (by decide +kernel), List.mem_of_getElem? (i := 1416) (by decide +kernel)⟩
theorem lw_p63 : lw_okq (⟨"ShornSinsModel", "isSpared", "(I)Z"⟩, 56) := ⟨⟨by decide +kernel, by decide +kernel⟩, List.mem_of_getElem? (i := 993) (by decide +kernel), List.mem_of_getElem? (i := 1419) (by decide +kernel), List.mem_of_getElem? (i := 1420) (by decide +kernel)⟩
def lw_privs_4 : List (MethodName × Nat) := [(⟨"ShornSinsModel", "shears", "(II)V"⟩, 56), (⟨"ShornSinsModel", "keeps", "(I)V"⟩, 56), (⟨"ShornSinsModel", "heaviestNow", "()I"⟩, 56), (⟨"ShornSinsModel", "diesOf", "(I)I"⟩, 56), (⟨"ShornSinsModel", "clothOf", "(III)I"⟩, 56), (⟨"ShornSinsModel", "thornOf", "(I)I"⟩, 56), (⟨"ShornSinsModel", "taxOf", "(I)I"⟩, 56), (⟨"ShornSinsModel", "heaviestOf", "(I)I"⟩, 56), (⟨"ShornSinsModel", "firstOf", "(I)I"⟩, 56), (⟨"ShornSinsModel", "planOf", "(II)I"⟩, 56), (⟨"ShornSinsModel", "worthAll", "()I"⟩, 56), (⟨"ShornSinsModel", "lightBy", "(II)I"⟩, 56), (⟨"ShornSinsModel", "isLight", "(III)Z"⟩, 56), (⟨"ShornSinsModel", "ofRow", "(II)I"⟩, 56), (⟨"ShornSinsModel", "spareBy", "()I"⟩, 56), (⟨"ShornSinsModel", "isSpared", "(I)Z"⟩, 56)]
theorem lw_r4 : ∀ q ∈ lw_privs_4, lw_okq q := List.forall_mem_cons.mpr ⟨lw_p48, List.forall_mem_cons.mpr ⟨lw_p49, List.forall_mem_cons.mpr ⟨lw_p50, List.forall_mem_cons.mpr ⟨lw_p51, List.forall_mem_cons.mpr ⟨lw_p52, List.forall_mem_cons.mpr ⟨lw_p53, List.forall_mem_cons.mpr ⟨lw_p54, List.forall_mem_cons.mpr ⟨lw_p55, List.forall_mem_cons.mpr ⟨lw_p56, List.forall_mem_cons.mpr ⟨lw_p57, List.forall_mem_cons.mpr ⟨lw_p58, List.forall_mem_cons.mpr ⟨lw_p59, List.forall_mem_cons.mpr ⟨lw_p60, List.forall_mem_cons.mpr ⟨lw_p61, List.forall_mem_cons.mpr ⟨lw_p62, List.forall_mem_cons.mpr ⟨lw_p63, fun _ h => absurd h List.not_mem_nil⟩⟩⟩⟩⟩⟩⟩⟩⟩⟩⟩⟩⟩⟩⟩⟩
theorem lw_p64 : lw_okq (⟨"ShornSinsModel", "livesMany", "()I"⟩, 56) := ⟨⟨by decide +kernel, by decide +kernel⟩, List.mem_of_getElem? (i := 993) (by decide +kernel), List.mem_of_getElem? (i := 1423) (by decide +kernel), List.mem_of_getElem? (i := 1424) (by decide +kernel)⟩
theorem lw_p65 : lw_okq (⟨"ShornSinsModel", "homeOf", "(II)I"⟩, 56) := ⟨⟨by decide +kernel, by decide +kernel⟩, List.mem_of_getElem? (i := 993) (by decide +kernel), List.mem_of_getElem? (i := 1431) (by decide +kernel), List.mem_of_getElem? (i := 1432) (by decide +kernel)⟩
theorem lw_p66 : lw_okq (⟨"ShornSinsModel", "neverNow", "()I"⟩, 56) := ⟨⟨by decide +kernel, by decide +kernel⟩, List.mem_of_getElem? (i := 993) (by decide +kernel), List.mem_of_getElem? (i := 1447) (by decide +kernel), List.mem_of_getElem? (i := 1448) (by decide +kernel)⟩
theorem lw_p67 : lw_okq (⟨"ShornSinsModel", "isSeen", "()Z"⟩, 56) := ⟨⟨by decide +kernel, by decide +kernel⟩, List.mem_of_getElem? (i := 993) (by decide +kernel), List.mem_of_getElem? (i := 1451) (by decide +kernel), List.mem_of_getElem? (i := 1452) (by decide +kernel)⟩
theorem lw_p68 : lw_okq (⟨"ShornSinsModel", "wasOf", "(II)I"⟩, 56) := ⟨⟨by decide +kernel, by decide +kernel⟩, List.mem_of_getElem? (i := 993) (by decide +kernel), List.mem_of_getElem? (i := 1459) (by decide +kernel), List.mem_of_getElem? (i := 1460) (by decide +kernel)⟩
theorem lw_p69 : lw_okq (⟨"ShornSinsModel", "askOf", "(I)I"⟩, 56) := ⟨⟨by decide +kernel, by decide +kernel⟩, List.mem_of_getElem? (i := 993) (by decide +kernel), List.mem_of_getElem? (i := 1467) (by decide +kernel), List.mem_of_getElem? (i := 1468) (by decide +kernel)⟩
theorem lw_p70 : lw_okq (⟨"ShornSinsModel", "virtueOf", "(IIII)J"⟩, 56) := ⟨⟨by decide +kernel, by decide +kernel⟩, List.mem_of_getElem? (i := 993) (by decide +kernel), List.mem_of_getElem? (i := 1475) (by decide +kernel), List.mem_of_getElem? (i := 1476) (by decide +kernel)⟩
theorem lw_p71 : lw_okq (⟨"ShornSinsModel", "yearsOf", "(III)I"⟩, 56) := ⟨⟨by decide +kernel, by decide +kernel⟩, List.mem_of_getElem? (i := 993) (by decide +kernel), List.mem_of_getElem? (i := 1490) (by decide +kernel), List.mem_of_getElem? (i := 1491) (by decide +kernel)⟩
theorem lw_p72 : lw_okq (⟨"ShornSinsModel", "lacks", "(III)I"⟩, 56) := ⟨⟨by decide +kernel, by decide +kernel⟩, List.mem_of_getElem? (i := 993) (by decide +kernel), List.mem_of_getElem? (i := 1507) (by decide +kernel), List.mem_of_getElem? (i := 1508) (by decide +kernel)⟩
theorem lw_p73 : lw_okq (⟨"ShornSinsModel", "keep", "(III)V"⟩, 56) := ⟨⟨by decide +kernel, by decide +kernel⟩, List.mem_of_getElem? (i := 993) (by decide +kernel), List.mem_of_getElem? (i := 1511) (by decide +kernel), List.mem_of_getElem? (i := 1512) (by decide +kernel)⟩
theorem lw_p74 : lw_okq (⟨"ShornSinsModel", "sumOf", "(I)I"⟩, 56) := ⟨⟨by decide +kernel, by decide +kernel⟩, List.mem_of_getElem? (i := 993) (by decide +kernel), List.mem_of_getElem? (i := 1532) (by decide +kernel), List.mem_of_getElem? (i := 1533) (by decide +kernel)⟩
theorem lw_p75 : lw_okq (⟨"ShornSinsModel", "personDigest", "(JI)J"⟩, 56) := ⟨⟨by decide +kernel, by decide +kernel⟩, List.mem_of_getElem? (i := 993) (by decide +kernel), List.mem_of_getElem? (i := 1543) (by decide +kernel), List.mem_of_getElem? (i := 1544) (by decide +kernel)⟩
theorem lw_p76 : lw_okq (⟨"ShornSinsModel", "monthDigest", "(JII)J"⟩, 56) := ⟨⟨by decide +kernel, by decide +kernel⟩, List.mem_of_getElem? (i := 993) (by decide +kernel), List.mem_of_getElem? (i := 1547) (by decide +kernel), List.mem_of_getElem? (i := 1548) (by decide +kernel)⟩
theorem lw_p77 : lw_okq (⟨"ShornSinsModel", "deedDigest", "(JI)J"⟩, 56) := ⟨⟨by decide +kernel, by decide +kernel⟩, List.mem_of_getElem? (i := 993) (by decide +kernel), List.mem_of_getElem? (i := 1551) (by decide +kernel), List.mem_of_getElem? (i := 1552) (by decide +kernel)⟩
theorem lw_p78 : lw_okq (⟨"ShornSinsModel", "countyDigest", "(JI)J"⟩, 56) := ⟨⟨by decide +kernel, by decide +kernel⟩, List.mem_of_getElem? (i := 993) (by decide +kernel), List.mem_of_getElem? (i := 1555) (by decide +kernel), List.mem_of_getElem? (i := 1556) (by decide +kernel)⟩
theorem lw_p79 : lw_okq (⟨"ShornSinsModel", "thornDigest", "(JI)J"⟩, 56) := ⟨⟨by decide +kernel, by decide +kernel⟩, List.mem_of_getElem? (i := 993) (by decide +kernel), List.mem_of_getElem? (i := 1559) (by decide +kernel), List.mem_of_getElem? (i := 1560) (by decide +kernel)⟩
def lw_privs_5 : List (MethodName × Nat) := [(⟨"ShornSinsModel", "livesMany", "()I"⟩, 56), (⟨"ShornSinsModel", "homeOf", "(II)I"⟩, 56), (⟨"ShornSinsModel", "neverNow", "()I"⟩, 56), (⟨"ShornSinsModel", "isSeen", "()Z"⟩, 56), (⟨"ShornSinsModel", "wasOf", "(II)I"⟩, 56), (⟨"ShornSinsModel", "askOf", "(I)I"⟩, 56), (⟨"ShornSinsModel", "virtueOf", "(IIII)J"⟩, 56), (⟨"ShornSinsModel", "yearsOf", "(III)I"⟩, 56), (⟨"ShornSinsModel", "lacks", "(III)I"⟩, 56), (⟨"ShornSinsModel", "keep", "(III)V"⟩, 56), (⟨"ShornSinsModel", "sumOf", "(I)I"⟩, 56), (⟨"ShornSinsModel", "personDigest", "(JI)J"⟩, 56), (⟨"ShornSinsModel", "monthDigest", "(JII)J"⟩, 56), (⟨"ShornSinsModel", "deedDigest", "(JI)J"⟩, 56), (⟨"ShornSinsModel", "countyDigest", "(JI)J"⟩, 56), (⟨"ShornSinsModel", "thornDigest", "(JI)J"⟩, 56)]
theorem lw_r5 : ∀ q ∈ lw_privs_5, lw_okq q := List.forall_mem_cons.mpr ⟨lw_p64, List.forall_mem_cons.mpr ⟨lw_p65, List.forall_mem_cons.mpr ⟨lw_p66, List.forall_mem_cons.mpr ⟨lw_p67, List.forall_mem_cons.mpr ⟨lw_p68, List.forall_mem_cons.mpr ⟨lw_p69, List.forall_mem_cons.mpr ⟨lw_p70, List.forall_mem_cons.mpr ⟨lw_p71, List.forall_mem_cons.mpr ⟨lw_p72, List.forall_mem_cons.mpr ⟨lw_p73, List.forall_mem_cons.mpr ⟨lw_p74, List.forall_mem_cons.mpr ⟨lw_p75, List.forall_mem_cons.mpr ⟨lw_p76, List.forall_mem_cons.mpr ⟨lw_p77, List.forall_mem_cons.mpr ⟨lw_p78, List.forall_mem_cons.mpr ⟨lw_p79, fun _ h => absurd h List.not_mem_nil⟩⟩⟩⟩⟩⟩⟩⟩⟩⟩⟩⟩⟩⟩⟩⟩
def lw_privs : List (MethodName × Nat) := lw_privs_1 ++ (lw_privs_2 ++ (lw_privs_3 ++ (lw_privs_4 ++ (lw_privs_5))))
def lw_tbl : List Cond := k2_sels lw_privs ++ tables_1
theorem lw_privs_ok : ∀ q ∈ lw_privs, lw_okq q := by
  show ∀ q ∈ lw_privs_1 ++ (lw_privs_2 ++ (lw_privs_3 ++ (lw_privs_4 ++ (lw_privs_5)))), lw_okq q
  exact List.forall_mem_append.mpr ⟨lw_r1, List.forall_mem_append.mpr ⟨lw_r2, List.forall_mem_append.mpr ⟨lw_r3, List.forall_mem_append.mpr ⟨lw_r4, lw_r5⟩⟩⟩⟩
end
section
/-- the tables' words that every method may take along -/
def zTB : List Cond := lw_tbl.filter goodWord
theorem zmem {w : Cond} (i : Nat) (h : lw_tbl[i]? = some w) (g : goodWord w = true) : w ∈ zTB := List.mem_filter.mpr ⟨List.mem_of_getElem? h, g⟩
theorem zin {C : String} {T : u_T} {N : Nat} (ps : List Nat) (h : u_ws C T N = ps.filterMap (fun i => lw_tbl[i]?)) (g : (u_ws C T N).all goodWord = true) : ∀ w ∈ u_ws C T N, w ∈ zTB := by
  intro w hw
  have h1 := List.all_eq_true.mp g w hw
  rw [h] at hw
  obtain ⟨i, -, hi⟩ := List.mem_filterMap.mp hw
  exact zmem i hi h1
theorem zTB_in : ∀ w ∈ zTB, w ∈ lw_tbl := fun w h => (List.mem_filter.mp h).1
theorem zTB_good : ∀ w ∈ zTB, goodWord w = true := fun w h => (List.mem_filter.mp h).2
def RX0 : String := "ShornSins$Chances"
def TX0 : u_T := fun k => match k with
  | 0 => ("ShornSins$Chances", "other", "LShornSins$Other;", true)
  | 1 => ("ShornSins$Chances", "above", "[J", true)
  | 2 => ("ShornSins$Chances", "below", "[J", true)
  | 3 => ("ShornSins$Chances", "knownSixteenths", "I", false)
  | 4 => ("ShornSins$Chances", "knownLast", "I", false)
  | _ => ("ShornSins$Chances", "lotSeed", "I", false)
def tyX0 : Nat → FieldType := fun k => match k with
  | 0 => .object "ShornSins$Other"
  | 1 => .array .long
  | 2 => .array .long
  | 3 => .int
  | 4 => .int
  | _ => .int
abbrev wsX00 : List Cond := u_ws RX0 TX0 6
theorem nmX0 : ∀ a, a < 6 → ∀ b, b < 6 → a ≠ b → (TX0 a).2.1 ≠ (TX0 b).2.1 := by decide +kernel
theorem tyX0_ok : ∀ k, k < 6 → parseFieldDescriptor (TX0 k).2.2.1 = some (tyX0 k) := by decide +kernel
theorem inX0 : ∀ w ∈ wsX00, w ∈ zTB := zin [380, 382, 384, 386, 388, 390] (by decide +kernel) (by decide +kernel)
def RX1 : String := "ShornSins$Choice"
def TX1 : u_T := fun k => match k with
  | 0 => ("ShornSins$Choice", "one", "I", false)
  | _ => ("ShornSins$Choice", "two", "I", false)
def tyX1 : Nat → FieldType := fun k => match k with
  | 0 => .int
  | _ => .int
abbrev wsX10 : List Cond := u_ws RX1 TX1 2
theorem nmX1 : ∀ a, a < 2 → ∀ b, b < 2 → a ≠ b → (TX1 a).2.1 ≠ (TX1 b).2.1 := by decide +kernel
theorem tyX1_ok : ∀ k, k < 2 → parseFieldDescriptor (TX1 k).2.2.1 = some (tyX1 k) := by decide +kernel
theorem inX1 : ∀ w ∈ wsX10, w ∈ zTB := zin [298, 300] (by decide +kernel) (by decide +kernel)
def RX2 : String := "ShornSins$Course"
def TX2 : u_T := fun k => match k with
  | 0 => ("ShornSins$Course", "told", "LShornSins$Told;", true)
  | 1 => ("ShornSins$Course", "now", "[I", true)
  | 2 => ("ShornSins$Course", "rows", "[I", true)
  | 3 => ("ShornSins$Course", "deaths", "[I", true)
  | 4 => ("ShornSins$Course", "firstMonth", "I", false)
  | _ => ("ShornSins$Course", "firstWho", "I", false)
def tyX2 : Nat → FieldType := fun k => match k with
  | 0 => .object "ShornSins$Told"
  | 1 => .array .int
  | 2 => .array .int
  | 3 => .array .int
  | 4 => .int
  | _ => .int
abbrev wsX20 : List Cond := u_ws RX2 TX2 6
theorem nmX2 : ∀ a, a < 6 → ∀ b, b < 6 → a ≠ b → (TX2 a).2.1 ≠ (TX2 b).2.1 := by decide +kernel
theorem tyX2_ok : ∀ k, k < 6 → parseFieldDescriptor (TX2 k).2.2.1 = some (tyX2 k) := by decide +kernel
theorem inX2 : ∀ w ∈ wsX20, w ∈ zTB := zin [241, 243, 245, 247, 249, 251] (by decide +kernel) (by decide +kernel)
def RX3 : String := "ShornSins$Other"
def TX3 : u_T := fun k => match k with
  | 0 => ("ShornSins$Other", "told", "LShornSins$Told;", true)
  | 1 => ("ShornSins$Other", "as", "LShornSins$Told;", true)
  | _ => ("ShornSins$Other", "course", "LShornSins$Course;", true)
def tyX3 : Nat → FieldType := fun k => match k with
  | 0 => .object "ShornSins$Told"
  | 1 => .object "ShornSins$Told"
  | _ => .object "ShornSins$Course"
abbrev wsX30 : List Cond := u_ws RX3 TX3 3
theorem nmX3 : ∀ a, a < 3 → ∀ b, b < 3 → a ≠ b → (TX3 a).2.1 ≠ (TX3 b).2.1 := by decide +kernel
theorem tyX3_ok : ∀ k, k < 3 → parseFieldDescriptor (TX3 k).2.2.1 = some (tyX3 k) := by decide +kernel
theorem inX3 : ∀ w ∈ wsX30, w ∈ zTB := zin [277, 279, 281] (by decide +kernel) (by decide +kernel)
def RX4 : String := "ShornSins$Plans"
def TX4 : u_T := fun k => match k with
  | 0 => ("ShornSins$Plans", "other", "LShornSins$Other;", true)
  | 1 => ("ShornSins$Plans", "choice", "LShornSins$Choice;", true)
  | 2 => ("ShornSins$Plans", "highest", "[I", true)
  | 3 => ("ShornSins$Plans", "measured", "I", false)
  | 4 => ("ShornSins$Plans", "bestPace", "I", false)
  | 5 => ("ShornSins$Plans", "bestMonth", "I", false)
  | 6 => ("ShornSins$Plans", "bestCounty", "I", false)
  | 7 => ("ShornSins$Plans", "bestWorth", "I", false)
  | 8 => ("ShornSins$Plans", "homePerson", "I", false)
  | 9 => ("ShornSins$Plans", "homeCounty", "I", false)
  | _ => ("ShornSins$Plans", "homeMuch", "I", false)
def tyX4 : Nat → FieldType := fun k => match k with
  | 0 => .object "ShornSins$Other"
  | 1 => .object "ShornSins$Choice"
  | 2 => .array .int
  | 3 => .int
  | 4 => .int
  | 5 => .int
  | 6 => .int
  | 7 => .int
  | 8 => .int
  | 9 => .int
  | _ => .int
abbrev wsX40 : List Cond := u_ws RX4 TX4 11
theorem nmX4 : ∀ a, a < 11 → ∀ b, b < 11 → a ≠ b → (TX4 a).2.1 ≠ (TX4 b).2.1 := by decide +kernel
theorem tyX4_ok : ∀ k, k < 11 → parseFieldDescriptor (TX4 k).2.2.1 = some (tyX4 k) := by decide +kernel
theorem inX4 : ∀ w ∈ wsX40, w ∈ zTB := zin [319, 321, 323, 325, 327, 329, 331, 333, 335, 337, 339] (by decide +kernel) (by decide +kernel)
def RX5 : String := "ShornSins$Rows"
def TX5 : u_T := fun k => match k with
  | 0 => ("ShornSins$Rows", "first", "[I", true)
  | 1 => ("ShornSins$Rows", "second", "[I", true)
  | 2 => ("ShornSins$Rows", "third", "[I", true)
  | _ => ("ShornSins$Rows", "count", "I", false)
def tyX5 : Nat → FieldType := fun k => match k with
  | 0 => .array .int
  | 1 => .array .int
  | 2 => .array .int
  | _ => .int
abbrev wsX50 : List Cond := u_ws RX5 TX5 4
theorem nmX5 : ∀ a, a < 4 → ∀ b, b < 4 → a ≠ b → (TX5 a).2.1 ≠ (TX5 b).2.1 := by decide +kernel
theorem tyX5_ok : ∀ k, k < 4 → parseFieldDescriptor (TX5 k).2.2.1 = some (tyX5 k) := by decide +kernel
theorem inX5 : ∀ w ∈ wsX50, w ∈ zTB := zin [173, 175, 177, 179] (by decide +kernel) (by decide +kernel)
def RX6 : String := "ShornSins$Sheets"
def TX6 : u_T := fun k => match k with
  | 0 => ("ShornSins$Sheets", "forms", "[I", true)
  | 1 => ("ShornSins$Sheets", "lengths", "[I", true)
  | 2 => ("ShornSins$Sheets", "items", "[I", true)
  | _ => ("ShornSins$Sheets", "latest", "I", false)
def tyX6 : Nat → FieldType := fun k => match k with
  | 0 => .array .int
  | 1 => .array .int
  | 2 => .array .int
  | _ => .int
abbrev wsX60 : List Cond := u_ws RX6 TX6 4
theorem nmX6 : ∀ a, a < 4 → ∀ b, b < 4 → a ≠ b → (TX6 a).2.1 ≠ (TX6 b).2.1 := by decide +kernel
theorem tyX6_ok : ∀ k, k < 4 → parseFieldDescriptor (TX6 k).2.2.1 = some (tyX6 k) := by decide +kernel
theorem inX6 : ∀ w ∈ wsX60, w ∈ zTB := zin [408, 410, 412, 414] (by decide +kernel) (by decide +kernel)
def RX7 : String := "ShornSins$Text"
def TX7 : u_T := fun k => match k with
  | 0 => ("ShornSins$Text", "bytes", "[I", true)
  | 1 => ("ShornSins$Text", "firstSigns", "Ljava/lang/String;", true)
  | 2 => ("ShornSins$Text", "secondSigns", "Ljava/lang/String;", true)
  | 3 => ("ShornSins$Text", "thirdSigns", "Ljava/lang/String;", true)
  | _ => ("ShornSins$Text", "length", "I", false)
def tyX7 : Nat → FieldType := fun k => match k with
  | 0 => .array .int
  | 1 => .object "java/lang/String"
  | 2 => .object "java/lang/String"
  | 3 => .object "java/lang/String"
  | _ => .int
abbrev wsX70 : List Cond := u_ws RX7 TX7 5
theorem nmX7 : ∀ a, a < 5 → ∀ b, b < 5 → a ≠ b → (TX7 a).2.1 ≠ (TX7 b).2.1 := by decide +kernel
theorem tyX7_ok : ∀ k, k < 5 → parseFieldDescriptor (TX7 k).2.2.1 = some (tyX7 k) := by decide +kernel
theorem inX7 : ∀ w ∈ wsX70, w ∈ zTB := zin [128, 130, 132, 134, 136] (by decide +kernel) (by decide +kernel)
def RX8 : String := "ShornSins$Told"
def TX8 : u_T := fun k => match k with
  | 0 => ("ShornSins$Told", "people", "LShornSins$Rows;", true)
  | 1 => ("ShornSins$Told", "deeds", "LShornSins$Rows;", true)
  | 2 => ("ShornSins$Told", "rounds", "LShornSins$Rows;", true)
  | 3 => ("ShornSins$Told", "journeys", "LShornSins$Rows;", true)
  | 4 => ("ShornSins$Told", "frosts", "LShornSins$Rows;", true)
  | 5 => ("ShornSins$Told", "grace", "I", false)
  | _ => ("ShornSins$Told", "cold", "I", false)
def tyX8 : Nat → FieldType := fun k => match k with
  | 0 => .object "ShornSins$Rows"
  | 1 => .object "ShornSins$Rows"
  | 2 => .object "ShornSins$Rows"
  | 3 => .object "ShornSins$Rows"
  | 4 => .object "ShornSins$Rows"
  | 5 => .int
  | _ => .int
abbrev wsX80 : List Cond := u_ws RX8 TX8 7
theorem nmX8 : ∀ a, a < 7 → ∀ b, b < 7 → a ≠ b → (TX8 a).2.1 ≠ (TX8 b).2.1 := by decide +kernel
theorem tyX8_ok : ∀ k, k < 7 → parseFieldDescriptor (TX8 k).2.2.1 = some (tyX8 k) := by decide +kernel
theorem inX8 : ∀ w ∈ wsX80, w ∈ zTB := zin [212, 214, 216, 218, 220, 222, 224] (by decide +kernel) (by decide +kernel)
def RX9 : String := "ShornSins$Witness"
def TX9 : u_T := fun k => match k with
  | 0 => ("ShornSins$Witness", "seen", "LShornSins$Rows;", true)
  | 1 => ("ShornSins$Witness", "never", "I", false)
  | 2 => ("ShornSins$Witness", "other", "LShornSins$Other;", true)
  | 3 => ("ShornSins$Witness", "wools", "[I", true)
  | _ => ("ShornSins$Witness", "surveyed", "Z", false)
def tyX9 : Nat → FieldType := fun k => match k with
  | 0 => .object "ShornSins$Rows"
  | 1 => .int
  | 2 => .object "ShornSins$Other"
  | 3 => .array .int
  | _ => .boolean
abbrev wsX90 : List Cond := u_ws RX9 TX9 5
theorem nmX9 : ∀ a, a < 5 → ∀ b, b < 5 → a ≠ b → (TX9 a).2.1 ≠ (TX9 b).2.1 := by decide +kernel
theorem tyX9_ok : ∀ k, k < 5 → parseFieldDescriptor (TX9 k).2.2.1 = some (tyX9 k) := by decide +kernel
theorem inX9 : ∀ w ∈ wsX90, w ∈ zTB := zin [357, 359, 361, 363, 365] (by decide +kernel) (by decide +kernel)
def RX10 : String := "ShornSins"
def TX10 : u_T := fun k => match k with
  | 0 => ("ShornSins", "peopleText", "LShornSins$Text;", true)
  | 1 => ("ShornSins", "deedsText", "LShornSins$Text;", true)
  | 2 => ("ShornSins", "told", "LShornSins$Told;", true)
  | 3 => ("ShornSins", "course", "LShornSins$Course;", true)
  | 4 => ("ShornSins", "other", "LShornSins$Other;", true)
  | 5 => ("ShornSins", "plans", "LShornSins$Plans;", true)
  | 6 => ("ShornSins", "witness", "LShornSins$Witness;", true)
  | 7 => ("ShornSins", "chances", "LShornSins$Chances;", true)
  | 8 => ("ShornSins", "sheets", "LShornSins$Sheets;", true)
  | _ => ("ShornSins", "settled", "Z", false)
def tyX10 : Nat → FieldType := fun k => match k with
  | 0 => .object "ShornSins$Text"
  | 1 => .object "ShornSins$Text"
  | 2 => .object "ShornSins$Told"
  | 3 => .object "ShornSins$Course"
  | 4 => .object "ShornSins$Other"
  | 5 => .object "ShornSins$Plans"
  | 6 => .object "ShornSins$Witness"
  | 7 => .object "ShornSins$Chances"
  | 8 => .object "ShornSins$Sheets"
  | _ => .boolean
abbrev wsX100 : List Cond := u_ws RX10 TX10 10
theorem nmX10 : ∀ a, a < 10 → ∀ b, b < 10 → a ≠ b → (TX10 a).2.1 ≠ (TX10 b).2.1 := by decide +kernel
theorem tyX10_ok : ∀ k, k < 10 → parseFieldDescriptor (TX10 k).2.2.1 = some (tyX10 k) := by decide +kernel
theorem inX10 : ∀ w ∈ wsX100, w ∈ zTB := zin [427, 429, 431, 433, 435, 437, 439, 441, 443, 445] (by decide +kernel) (by decide +kernel)
def RX11 : String := "ShornSinsModel"
def TX11 : u_T := fun k => match k with
  | 0 => ("ShornSinsModel", "typed", "[I", true)
  | 1 => ("ShornSinsModel", "texts", "[I", true)
  | 2 => ("ShornSinsModel", "people", "I", false)
  | 3 => ("ShornSinsModel", "wools", "[I", true)
  | 4 => ("ShornSinsModel", "homes", "[I", true)
  | 5 => ("ShornSinsModel", "firsts", "[I", true)
  | 6 => ("ShornSinsModel", "deeds", "I", false)
  | 7 => ("ShornSinsModel", "deedMonth", "[I", true)
  | 8 => ("ShornSinsModel", "deedWho", "[I", true)
  | 9 => ("ShornSinsModel", "deedWhat", "[I", true)
  | 10 => ("ShornSinsModel", "graceTold", "I", false)
  | 11 => ("ShornSinsModel", "coldTold", "I", false)
  | 12 => ("ShornSinsModel", "rounds", "I", false)
  | 13 => ("ShornSinsModel", "roundMonth", "[I", true)
  | 14 => ("ShornSinsModel", "roundCounty", "[I", true)
  | 15 => ("ShornSinsModel", "roundPace", "[I", true)
  | 16 => ("ShornSinsModel", "journeys", "I", false)
  | 17 => ("ShornSinsModel", "journeyMonth", "[I", true)
  | 18 => ("ShornSinsModel", "journeyWho", "[I", true)
  | 19 => ("ShornSinsModel", "journeyCounty", "[I", true)
  | 20 => ("ShornSinsModel", "frosts", "I", false)
  | 21 => ("ShornSinsModel", "frostMonth", "[I", true)
  | 22 => ("ShornSinsModel", "notDeeds", "I", false)
  | 23 => ("ShornSinsModel", "notRounds", "I", false)
  | 24 => ("ShornSinsModel", "frostBits", "I", false)
  | 25 => ("ShornSinsModel", "has", "[I", true)
  | 26 => ("ShornSinsModel", "place", "[I", true)
  | 27 => ("ShornSinsModel", "often", "[I", true)
  | 28 => ("ShornSinsModel", "shornOf", "[I", true)
  | 29 => ("ShornSinsModel", "diesAt", "[I", true)
  | 30 => ("ShornSinsModel", "did", "I", false)
  | 31 => ("ShornSinsModel", "thornNow", "I", false)
  | 32 => ("ShornSinsModel", "firstMonth", "I", false)
  | 33 => ("ShornSinsModel", "firstWho", "I", false)
  | 34 => ("ShornSinsModel", "cloths", "[I", true)
  | 35 => ("ShornSinsModel", "worths", "[I", true)
  | 36 => ("ShornSinsModel", "hasAt", "[I", true)
  | 37 => ("ShornSinsModel", "placeAt", "[I", true)
  | 38 => ("ShornSinsModel", "oftenAt", "[I", true)
  | 39 => ("ShornSinsModel", "thornAt", "[I", true)
  | 40 => ("ShornSinsModel", "heavyAt", "[I", true)
  | 41 => ("ShornSinsModel", "clothAt", "[I", true)
  | 42 => ("ShornSinsModel", "worthAt", "[I", true)
  | 43 => ("ShornSinsModel", "taxes", "[I", true)
  | 44 => ("ShornSinsModel", "planRow", "[I", true)
  | 45 => ("ShornSinsModel", "seens", "I", false)
  | 46 => ("ShornSinsModel", "seenMonth", "[I", true)
  | 47 => ("ShornSinsModel", "seenWho", "[I", true)
  | 48 => ("ShornSinsModel", "seenMuch", "[I", true)
  | 49 => ("ShornSinsModel", "hasWithout", "[I", true)
  | 50 => ("ShornSinsModel", "isThere", "[Z", true)
  | 51 => ("ShornSinsModel", "forms", "[I", true)
  | 52 => ("ShornSinsModel", "sizes", "[I", true)
  | 53 => ("ShornSinsModel", "items", "[I", true)
  | 54 => ("ShornSinsModel", "moved", "[I", true)
  | _ => ("ShornSinsModel", "finding", "I", false)
def tyX11 : Nat → FieldType := fun k => match k with
  | 0 => .array .int
  | 1 => .array .int
  | 2 => .int
  | 3 => .array .int
  | 4 => .array .int
  | 5 => .array .int
  | 6 => .int
  | 7 => .array .int
  | 8 => .array .int
  | 9 => .array .int
  | 10 => .int
  | 11 => .int
  | 12 => .int
  | 13 => .array .int
  | 14 => .array .int
  | 15 => .array .int
  | 16 => .int
  | 17 => .array .int
  | 18 => .array .int
  | 19 => .array .int
  | 20 => .int
  | 21 => .array .int
  | 22 => .int
  | 23 => .int
  | 24 => .int
  | 25 => .array .int
  | 26 => .array .int
  | 27 => .array .int
  | 28 => .array .int
  | 29 => .array .int
  | 30 => .int
  | 31 => .int
  | 32 => .int
  | 33 => .int
  | 34 => .array .int
  | 35 => .array .int
  | 36 => .array .int
  | 37 => .array .int
  | 38 => .array .int
  | 39 => .array .int
  | 40 => .array .int
  | 41 => .array .int
  | 42 => .array .int
  | 43 => .array .int
  | 44 => .array .int
  | 45 => .int
  | 46 => .array .int
  | 47 => .array .int
  | 48 => .array .int
  | 49 => .array .int
  | 50 => .array .boolean
  | 51 => .array .int
  | 52 => .array .int
  | 53 => .array .int
  | 54 => .array .int
  | _ => .int
abbrev wsX110 : List Cond := u_ws RX11 TX11 56
theorem nmX11 : ∀ a, a < 56 → ∀ b, b < 56 → a ≠ b → (TX11 a).2.1 ≠ (TX11 b).2.1 := by decide +kernel
theorem tyX11_ok : ∀ k, k < 56 → parseFieldDescriptor (TX11 k).2.2.1 = some (tyX11 k) := by decide +kernel
theorem inX11 : ∀ w ∈ wsX110, w ∈ zTB := zin [1134, 1136, 1138, 1140, 1142, 1144, 1146, 1148, 1150, 1152, 1154, 1156, 1158, 1160, 1162, 1164, 1166, 1168, 1170, 1172, 1174, 1176, 1178, 1180, 1182, 1184, 1186, 1188, 1190, 1192, 1194, 1196, 1198, 1200, 1202, 1204, 1206, 1208, 1210, 1212, 1214, 1216, 1218, 1220, 1222, 1224, 1226, 1228, 1230, 1232, 1234, 1236, 1238, 1240, 1242, 1244] (by decide +kernel) (by decide +kernel)
abbrev vwCl : List vw_C := [(RX0, TX0, 6), (RX1, TX1, 2), (RX2, TX2, 6), (RX3, TX3, 3), (RX4, TX4, 11), (RX5, TX5, 4), (RX6, TX6, 4), (RX7, TX7, 5), (RX8, TX8, 7), (RX9, TX9, 5), (RX10, TX10, 10), (RX11, TX11, 56)]
def RJ0 : String := "java/lang/String"
def RJ1 : String := "java/lang/StringLatin1"
def RJ6 : String := "java/lang/Integer"
def RJ7 : String := "java/util/Arrays"
abbrev cX0_init : ByteArray := prog_2_method_1_code
def yX0_init : MethodName := ⟨RX0, "<init>", "(LShornSins$Other;)V"⟩
abbrev cX0_unsettle : ByteArray := prog_2_method_2_code
def yX0_unsettle : MethodName := ⟨RX0, "unsettle", "()V"⟩
abbrev cX0_above : ByteArray := prog_2_method_3_code
def yX0_above : MethodName := ⟨RX0, "above", "(I)J"⟩
abbrev cX0_below : ByteArray := prog_2_method_4_code
def yX0_below : MethodName := ⟨RX0, "below", "(I)J"⟩
abbrev cX0_findLiving : ByteArray := prog_2_method_5_code
def yX0_findLiving : MethodName := ⟨RX0, "findLiving", "(II)V"⟩
abbrev cX0_supposeFrosts : ByteArray := prog_2_method_6_code
def yX0_supposeFrosts : MethodName := ⟨RX0, "supposeFrosts", "(II)V"⟩
abbrev cX0_addToLiving : ByteArray := prog_2_method_7_code
def yX0_addToLiving : MethodName := ⟨RX0, "addToLiving", "(J)V"⟩
abbrev cX0_reduce : ByteArray := prog_2_method_8_code
def yX0_reduce : MethodName := ⟨RX0, "reduce", "(I)V"⟩
abbrev cX0_power : ByteArray := prog_2_method_9_code
def yX0_power : MethodName := ⟨RX0, "power", "(II)J"⟩
abbrev cX0_runYears : ByteArray := prog_2_method_10_code
def yX0_runYears : MethodName := ⟨RX0, "runYears", "(II)V"⟩
abbrev cX0_lot : ByteArray := prog_2_method_11_code
def yX0_lot : MethodName := ⟨RX0, "lot", "(I)I"⟩
abbrev cX1_init : ByteArray := prog_3_method_1_code
def yX1_init : MethodName := ⟨RX1, "<init>", "()V"⟩
abbrev cX1_begin : ByteArray := prog_3_method_2_code
def yX1_begin : MethodName := ⟨RX1, "begin", "()V"⟩
abbrev cX1_goOn : ByteArray := prog_3_method_3_code
def yX1_goOn : MethodName := ⟨RX1, "goOn", "(I)Z"⟩
abbrev cX1_takeOutOf : ByteArray := prog_3_method_4_code
def yX1_takeOutOf : MethodName := ⟨RX1, "takeOutOf", "(LShornSins$Rows;)V"⟩
abbrev cX1_tell : ByteArray := prog_3_method_5_code
def yX1_tell : MethodName := ⟨RX1, "tell", "(I)I"⟩
abbrev cX2_init : ByteArray := prog_4_method_1_code
def yX2_init : MethodName := ⟨RX2, "<init>", "(LShornSins$Told;)V"⟩
abbrev cX2_run : ByteArray := prog_4_method_2_code
def yX2_run : MethodName := ⟨RX2, "run", "(I)V"⟩
abbrev cX2_begin : ByteArray := prog_4_method_3_code
def yX2_begin : MethodName := ⟨RX2, "begin", "()V"⟩
abbrev cX2_monthsOf : ByteArray := prog_4_method_4_code
def yX2_monthsOf : MethodName := ⟨RX2, "monthsOf", "(LShornSins$Rows;)I"⟩
abbrev cX2_doDeeds : ByteArray := prog_4_method_5_code
def yX2_doDeeds : MethodName := ⟨RX2, "doDeeds", "(I)I"⟩
abbrev cX2_growth : ByteArray := prog_4_method_6_code
def yX2_growth : MethodName := ⟨RX2, "growth", "(II)I"⟩
abbrev cX2_moult : ByteArray := prog_4_method_7_code
def yX2_moult : MethodName := ⟨RX2, "moult", "(I)V"⟩
abbrev cX2_travel : ByteArray := prog_4_method_8_code
def yX2_travel : MethodName := ⟨RX2, "travel", "(I)V"⟩
abbrev cX2_makeRounds : ByteArray := prog_4_method_9_code
def yX2_makeRounds : MethodName := ⟨RX2, "makeRounds", "(IZ)V"⟩
abbrev cX2_woolliestIn : ByteArray := prog_4_method_10_code
def yX2_woolliestIn : MethodName := ⟨RX2, "woolliestIn", "(I)I"⟩
abbrev cX2_shear : ByteArray := prog_4_method_11_code
def yX2_shear : MethodName := ⟨RX2, "shear", "(IIZ)V"⟩
abbrev cX2_lives : ByteArray := prog_4_method_12_code
def yX2_lives : MethodName := ⟨RX2, "lives", "(I)Z"⟩
abbrev cX2_livesBehind : ByteArray := prog_4_method_13_code
def yX2_livesBehind : MethodName := ⟨RX2, "livesBehind", "(II)Z"⟩
abbrev cX2_behind : ByteArray := prog_4_method_14_code
def yX2_behind : MethodName := ⟨RX2, "behind", "(II)I"⟩
abbrev cX2_deathOf : ByteArray := prog_4_method_15_code
def yX2_deathOf : MethodName := ⟨RX2, "deathOf", "(I)I"⟩
abbrev cX2_living : ByteArray := prog_4_method_16_code
def yX2_living : MethodName := ⟨RX2, "living", "()I"⟩
abbrev cX2_taxBehind : ByteArray := prog_4_method_17_code
def yX2_taxBehind : MethodName := ⟨RX2, "taxBehind", "(I)I"⟩
abbrev cX2_heaviestBehind : ByteArray := prog_4_method_18_code
def yX2_heaviestBehind : MethodName := ⟨RX2, "heaviestBehind", "(I)I"⟩
abbrev cX2_worthInAll : ByteArray := prog_4_method_19_code
def yX2_worthInAll : MethodName := ⟨RX2, "worthInAll", "()I"⟩
abbrev cX3_init : ByteArray := prog_5_method_1_code
def yX3_init : MethodName := ⟨RX3, "<init>", "(LShornSins$Told;)V"⟩
abbrev cX3_afresh : ByteArray := prog_5_method_2_code
def yX3_afresh : MethodName := ⟨RX3, "afresh", "()V"⟩
abbrev cX4_init : ByteArray := prog_6_method_1_code
def yX4_init : MethodName := ⟨RX4, "<init>", "(LShornSins$Other;)V"⟩
abbrev cX4_unsettle : ByteArray := prog_6_method_2_code
def yX4_unsettle : MethodName := ⟨RX4, "unsettle", "()V"⟩
abbrev cX4_findRound : ByteArray := prog_6_method_3_code
def yX4_findRound : MethodName := ⟨RX4, "findRound", "(I)V"⟩
abbrev cX4_fewestDeeds : ByteArray := prog_6_method_4_code
def yX4_fewestDeeds : MethodName := ⟨RX4, "fewestDeeds", "(III)I"⟩
abbrev cX4_measure : ByteArray := prog_6_method_5_code
def yX4_measure : MethodName := ⟨RX4, "measure", "(I)V"⟩
abbrev cX4_fewestRounds : ByteArray := prog_6_method_6_code
def yX4_fewestRounds : MethodName := ⟨RX4, "fewestRounds", "(I)I"⟩
abbrev cX4_findHome : ByteArray := prog_6_method_7_code
def yX4_findHome : MethodName := ⟨RX4, "findHome", "(I)V"⟩
abbrev cX5_init : ByteArray := prog_7_method_1_code
def yX5_init : MethodName := ⟨RX5, "<init>", "(I)V"⟩
abbrev cX5_append : ByteArray := prog_7_method_2_code
def yX5_append : MethodName := ⟨RX5, "append", "(III)I"⟩
abbrev cX5_cell : ByteArray := prog_7_method_3_code
def yX5_cell : MethodName := ⟨RX5, "cell", "(II)I"⟩
abbrev cX5_setCell : ByteArray := prog_7_method_4_code
def yX5_setCell : MethodName := ⟨RX5, "setCell", "(III)V"⟩
abbrev cX5_takeOut : ByteArray := prog_7_method_5_code
def yX5_takeOut : MethodName := ⟨RX5, "takeOut", "(I)V"⟩
abbrev cX5_become : ByteArray := prog_7_method_6_code
def yX5_become : MethodName := ⟨RX5, "become", "(LShornSins$Rows;)V"⟩
abbrev cX6_init : ByteArray := prog_8_method_1_code
def yX6_init : MethodName := ⟨RX6, "<init>", "()V"⟩
abbrev cX6_finding : ByteArray := prog_8_method_2_code
def yX6_finding : MethodName := ⟨RX6, "finding", "(I)I"⟩
abbrev cX6_isLost : ByteArray := prog_8_method_3_code
def yX6_isLost : MethodName := ⟨RX6, "isLost", "(I)Z"⟩
abbrev cX6_length : ByteArray := prog_8_method_4_code
def yX6_length : MethodName := ⟨RX6, "length", "(I)I"⟩
abbrev cX6_renew : ByteArray := prog_8_method_5_code
def yX6_renew : MethodName := ⟨RX6, "renew", "(III)I"⟩
abbrev cX6_drop : ByteArray := prog_8_method_6_code
def yX6_drop : MethodName := ⟨RX6, "drop", "(I)I"⟩
abbrev cX6_holds : ByteArray := prog_8_method_7_code
def yX6_holds : MethodName := ⟨RX6, "holds", "(III)Z"⟩
abbrev cX6_alike : ByteArray := prog_8_method_8_code
def yX6_alike : MethodName := ⟨RX6, "alike", "(II)Z"⟩
abbrev cX6_faultAt : ByteArray := prog_8_method_9_code
def yX6_faultAt : MethodName := ⟨RX6, "faultAt", "(III)I"⟩
abbrev cX6_item : ByteArray := prog_8_method_10_code
def yX6_item : MethodName := ⟨RX6, "item", "(II)I"⟩
abbrev cX6_store : ByteArray := prog_8_method_11_code
def yX6_store : MethodName := ⟨RX6, "store", "(III)V"⟩
abbrev cX6_move : ByteArray := prog_8_method_12_code
def yX6_move : MethodName := ⟨RX6, "move", "(IIIII)V"⟩
abbrev cX7_init : ByteArray := prog_9_method_1_code
def yX7_init : MethodName := ⟨RX7, "<init>", "(ILjava/lang/String;Ljava/lang/String;Ljava/lang/String;)V"⟩
abbrev cX7_append : ByteArray := prog_9_method_2_code
def yX7_append : MethodName := ⟨RX7, "append", "(I)I"⟩
abbrev cX7_faultPlace : ByteArray := prog_9_method_3_code
def yX7_faultPlace : MethodName := ⟨RX7, "faultPlace", "()I"⟩
abbrev cX7_readInto : ByteArray := prog_9_method_4_code
def yX7_readInto : MethodName := ⟨RX7, "readInto", "(LShornSins$Rows;)V"⟩
abbrev cX7_meaningAt : ByteArray := prog_9_method_5_code
def yX7_meaningAt : MethodName := ⟨RX7, "meaningAt", "(I)I"⟩
abbrev cX7_signsAt : ByteArray := prog_9_method_6_code
def yX7_signsAt : MethodName := ⟨RX7, "signsAt", "(I)Ljava/lang/String;"⟩
abbrev cX8_init : ByteArray := prog_10_method_1_code
def yX8_init : MethodName := ⟨RX8, "<init>", "()V"⟩
abbrev cX8_become : ByteArray := prog_10_method_2_code
def yX8_become : MethodName := ⟨RX8, "become", "(LShornSins$Told;)V"⟩
abbrev cX9_init : ByteArray := prog_11_method_1_code
def yX9_init : MethodName := ⟨RX9, "<init>", "(LShornSins$Other;)V"⟩
abbrev cX9_unsettle : ByteArray := prog_11_method_2_code
def yX9_unsettle : MethodName := ⟨RX9, "unsettle", "()V"⟩
abbrev cX9_survey : ByteArray := prog_11_method_3_code
def yX9_survey : MethodName := ⟨RX9, "survey", "()V"⟩
abbrev cX9_keepWools : ByteArray := prog_11_method_4_code
def yX9_keepWools : MethodName := ⟨RX9, "keepWools", "(I)V"⟩
abbrev cX9_placeOf : ByteArray := prog_11_method_5_code
def yX9_placeOf : MethodName := ⟨RX9, "placeOf", "(III)I"⟩
abbrev cX9_fitting : ByteArray := prog_11_method_6_code
def yX9_fitting : MethodName := ⟨RX9, "fitting", "(III)I"⟩
abbrev cX9_lastSeen : ByteArray := prog_11_method_7_code
def yX9_lastSeen : MethodName := ⟨RX9, "lastSeen", "()I"⟩
abbrev cX9_comesOut : ByteArray := prog_11_method_8_code
def yX9_comesOut : MethodName := ⟨RX9, "comesOut", "()Z"⟩
abbrev cX9_monthToAsk : ByteArray := prog_11_method_9_code
def yX9_monthToAsk : MethodName := ⟨RX9, "monthToAsk", "(I)I"⟩
abbrev cX9_mostAlike : ByteArray := prog_11_method_10_code
def yX9_mostAlike : MethodName := ⟨RX9, "mostAlike", "(II)I"⟩
abbrev cX9_manyLike : ByteArray := prog_11_method_11_code
def yX9_manyLike : MethodName := ⟨RX9, "manyLike", "(III)I"⟩
abbrev cX10_init : ByteArray := prog_1_method_1_code
def yX10_init : MethodName := ⟨RX10, "<init>", "()V"⟩
abbrev cX10_type : ByteArray := prog_1_method_2_code
def yX10_type : MethodName := ⟨RX10, "type", "(II)I"⟩
abbrev cX10_wipe : ByteArray := prog_1_method_3_code
def yX10_wipe : MethodName := ⟨RX10, "wipe", "(I)I"⟩
abbrev cX10_undo : ByteArray := prog_1_method_4_code
def yX10_undo : MethodName := ⟨RX10, "undo", "(I)I"⟩
abbrev cX10_fault : ByteArray := prog_1_method_5_code
def yX10_fault : MethodName := ⟨RX10, "fault", "(I)I"⟩
abbrev cX10_person : ByteArray := prog_1_method_6_code
def yX10_person : MethodName := ⟨RX10, "person", "(II)I"⟩
abbrev cX10_deed : ByteArray := prog_1_method_7_code
def yX10_deed : MethodName := ⟨RX10, "deed", "(II)I"⟩
abbrev cX10_set : ByteArray := prog_1_method_8_code
def yX10_set : MethodName := ⟨RX10, "set", "(II)I"⟩
abbrev cX10_round : ByteArray := prog_1_method_9_code
def yX10_round : MethodName := ⟨RX10, "round", "(III)I"⟩
abbrev cX10_journey : ByteArray := prog_1_method_10_code
def yX10_journey : MethodName := ⟨RX10, "journey", "(III)I"⟩
abbrev cX10_frost : ByteArray := prog_1_method_11_code
def yX10_frost : MethodName := ⟨RX10, "frost", "(I)I"⟩
abbrev cX10_back : ByteArray := prog_1_method_12_code
def yX10_back : MethodName := ⟨RX10, "back", "(I)I"⟩
abbrev cX10_read : ByteArray := prog_1_method_13_code
def yX10_read : MethodName := ⟨RX10, "read", "(I)I"⟩
abbrev cX10_wool : ByteArray := prog_1_method_14_code
def yX10_wool : MethodName := ⟨RX10, "wool", "(III)I"⟩
abbrev cX10_dies : ByteArray := prog_1_method_15_code
def yX10_dies : MethodName := ⟨RX10, "dies", "(I)I"⟩
abbrev cX10_cloth : ByteArray := prog_1_method_16_code
def yX10_cloth : MethodName := ⟨RX10, "cloth", "(III)I"⟩
abbrev cX10_thorn : ByteArray := prog_1_method_17_code
def yX10_thorn : MethodName := ⟨RX10, "thorn", "(I)I"⟩
abbrev cX10_tax : ByteArray := prog_1_method_18_code
def yX10_tax : MethodName := ⟨RX10, "tax", "(I)I"⟩
abbrev cX10_heaviest : ByteArray := prog_1_method_19_code
def yX10_heaviest : MethodName := ⟨RX10, "heaviest", "(I)I"⟩
abbrev cX10_first : ByteArray := prog_1_method_20_code
def yX10_first : MethodName := ⟨RX10, "first", "(I)I"⟩
abbrev cX10_plan : ByteArray := prog_1_method_21_code
def yX10_plan : MethodName := ⟨RX10, "plan", "(II)I"⟩
abbrev cX10_light : ByteArray := prog_1_method_22_code
def yX10_light : MethodName := ⟨RX10, "light", "(III)I"⟩
abbrev cX10_spare : ByteArray := prog_1_method_23_code
def yX10_spare : MethodName := ⟨RX10, "spare", "(I)I"⟩
abbrev cX10_home : ByteArray := prog_1_method_24_code
def yX10_home : MethodName := ⟨RX10, "home", "(II)I"⟩
abbrev cX10_seen : ByteArray := prog_1_method_25_code
def yX10_seen : MethodName := ⟨RX10, "seen", "(III)I"⟩
abbrev cX10_forget : ByteArray := prog_1_method_26_code
def yX10_forget : MethodName := ⟨RX10, "forget", "()I"⟩
abbrev cX10_never : ByteArray := prog_1_method_27_code
def yX10_never : MethodName := ⟨RX10, "never", "()I"⟩
abbrev cX10_was : ByteArray := prog_1_method_28_code
def yX10_was : MethodName := ⟨RX10, "was", "(II)I"⟩
abbrev cX10_ask : ByteArray := prog_1_method_29_code
def yX10_ask : MethodName := ⟨RX10, "ask", "(I)I"⟩
abbrev cX10_virtue : ByteArray := prog_1_method_30_code
def yX10_virtue : MethodName := ⟨RX10, "virtue", "(IIII)J"⟩
abbrev cX10_years : ByteArray := prog_1_method_31_code
def yX10_years : MethodName := ⟨RX10, "years", "(III)I"⟩
abbrev cX10_sheet : ByteArray := prog_1_method_32_code
def yX10_sheet : MethodName := ⟨RX10, "sheet", "(III)I"⟩
abbrev cX10_lose : ByteArray := prog_1_method_33_code
def yX10_lose : MethodName := ⟨RX10, "lose", "(I)I"⟩
abbrev cX10_put : ByteArray := prog_1_method_34_code
def yX10_put : MethodName := ⟨RX10, "put", "(IIII)I"⟩
abbrev cX10_get : ByteArray := prog_1_method_35_code
def yX10_get : MethodName := ⟨RX10, "get", "(III)I"⟩
abbrev cX10_copy : ByteArray := prog_1_method_36_code
def yX10_copy : MethodName := ⟨RX10, "copy", "(IIIII)I"⟩
abbrev cX10_write : ByteArray := prog_1_method_37_code
def yX10_write : MethodName := ⟨RX10, "write", "(II)I"⟩
abbrev cX10_count : ByteArray := prog_1_method_38_code
def yX10_count : MethodName := ⟨RX10, "count", "(I)I"⟩
abbrev cX10_digest : ByteArray := prog_1_method_39_code
def yX10_digest : MethodName := ⟨RX10, "digest", "()J"⟩
abbrev cX10_digestPerson : ByteArray := prog_1_method_40_code
def yX10_digestPerson : MethodName := ⟨RX10, "digestPerson", "(JI)J"⟩
abbrev cX10_within : ByteArray := prog_1_method_41_code
def yX10_within : MethodName := ⟨RX10, "within", "(III)Z"⟩
abbrev cX10_isMonth : ByteArray := prog_1_method_42_code
def yX10_isMonth : MethodName := ⟨RX10, "isMonth", "(I)Z"⟩
abbrev cX10_isCounty : ByteArray := prog_1_method_43_code
def yX10_isCounty : MethodName := ⟨RX10, "isCounty", "(I)Z"⟩
abbrev cX10_isSheet : ByteArray := prog_1_method_44_code
def yX10_isSheet : MethodName := ⟨RX10, "isSheet", "(I)Z"⟩
abbrev cX10_isPerson : ByteArray := prog_1_method_45_code
def yX10_isPerson : MethodName := ⟨RX10, "isPerson", "(I)Z"⟩
abbrev cX10_isDeed : ByteArray := prog_1_method_46_code
def yX10_isDeed : MethodName := ⟨RX10, "isDeed", "(I)Z"⟩
abbrev cX10_textOf : ByteArray := prog_1_method_47_code
def yX10_textOf : MethodName := ⟨RX10, "textOf", "(I)LShornSins$Text;"⟩
abbrev cX10_readTexts : ByteArray := prog_1_method_48_code
def yX10_readTexts : MethodName := ⟨RX10, "readTexts", "()V"⟩
abbrev cX10_unsettle : ByteArray := prog_1_method_49_code
def yX10_unsettle : MethodName := ⟨RX10, "unsettle", "()V"⟩
abbrev cX10_settle : ByteArray := prog_1_method_50_code
def yX10_settle : MethodName := ⟨RX10, "settle", "()V"⟩
abbrev cX11_init : ByteArray := prog_13_method_1_code
def yX11_init : MethodName := ⟨RX11, "<init>", "()V"⟩
abbrev cX11_in : ByteArray := prog_13_method_3_code
def yX11_in : MethodName := ⟨RX11, "in", "(III)Z"⟩
abbrev cX11_isIn : ByteArray := prog_13_method_4_code
def yX11_isIn : MethodName := ⟨RX11, "isIn", "(II)Z"⟩
abbrev cX11_no : ByteArray := prog_13_method_5_code
def yX11_no : MethodName := ⟨RX11, "no", "(I)J"⟩
abbrev cX11_lowest : ByteArray := prog_13_method_6_code
def yX11_lowest : MethodName := ⟨RX11, "lowest", "(JJI)J"⟩
abbrev cX11_isText : ByteArray := prog_13_method_7_code
def yX11_isText : MethodName := ⟨RX11, "isText", "(I)Z"⟩
abbrev cX11_isMonth : ByteArray := prog_13_method_8_code
def yX11_isMonth : MethodName := ⟨RX11, "isMonth", "(I)Z"⟩
abbrev cX11_isCounty : ByteArray := prog_13_method_9_code
def yX11_isCounty : MethodName := ⟨RX11, "isCounty", "(I)Z"⟩
abbrev cX11_type : ByteArray := prog_13_method_10_code
def yX11_type : MethodName := ⟨RX11, "type", "(II)I"⟩
abbrev cX11_wipe : ByteArray := prog_13_method_11_code
def yX11_wipe : MethodName := ⟨RX11, "wipe", "(I)I"⟩
abbrev cX11_undo : ByteArray := prog_13_method_12_code
def yX11_undo : MethodName := ⟨RX11, "undo", "(I)I"⟩
abbrev cX11_byteAt : ByteArray := prog_13_method_13_code
def yX11_byteAt : MethodName := ⟨RX11, "byteAt", "(II)I"⟩
abbrev cX11_readsPerson : ByteArray := prog_13_method_14_code
def yX11_readsPerson : MethodName := ⟨RX11, "readsPerson", "(II)I"⟩
abbrev cX11_readsDeed : ByteArray := prog_13_method_15_code
def yX11_readsDeed : MethodName := ⟨RX11, "readsDeed", "(II)I"⟩
abbrev cX11_readsParts : ByteArray := prog_13_method_16_code
def yX11_readsParts : MethodName := ⟨RX11, "readsParts", "(I)I"⟩
abbrev cX11_faultOf : ByteArray := prog_13_method_17_code
def yX11_faultOf : MethodName := ⟨RX11, "faultOf", "(I)I"⟩
abbrev cX11_reads : ByteArray := prog_13_method_18_code
def yX11_reads : MethodName := ⟨RX11, "reads", "()V"⟩
abbrev cX11_fault : ByteArray := prog_13_method_19_code
def yX11_fault : MethodName := ⟨RX11, "fault", "(I)I"⟩
abbrev cX11_isPerson : ByteArray := prog_13_method_20_code
def yX11_isPerson : MethodName := ⟨RX11, "isPerson", "(I)Z"⟩
abbrev cX11_isDeed : ByteArray := prog_13_method_21_code
def yX11_isDeed : MethodName := ⟨RX11, "isDeed", "(I)Z"⟩
abbrev cX11_personOf : ByteArray := prog_13_method_22_code
def yX11_personOf : MethodName := ⟨RX11, "personOf", "(II)I"⟩
abbrev cX11_person : ByteArray := prog_13_method_23_code
def yX11_person : MethodName := ⟨RX11, "person", "(II)I"⟩
abbrev cX11_deedOf : ByteArray := prog_13_method_24_code
def yX11_deedOf : MethodName := ⟨RX11, "deedOf", "(II)I"⟩
abbrev cX11_deed : ByteArray := prog_13_method_25_code
def yX11_deed : MethodName := ⟨RX11, "deed", "(II)I"⟩
abbrev cX11_set : ByteArray := prog_13_method_26_code
def yX11_set : MethodName := ⟨RX11, "set", "(II)I"⟩
abbrev cX11_round : ByteArray := prog_13_method_27_code
def yX11_round : MethodName := ⟨RX11, "round", "(III)I"⟩
abbrev cX11_journey : ByteArray := prog_13_method_28_code
def yX11_journey : MethodName := ⟨RX11, "journey", "(III)I"⟩
abbrev cX11_frost : ByteArray := prog_13_method_29_code
def yX11_frost : MethodName := ⟨RX11, "frost", "(I)I"⟩
abbrev cX11_back : ByteArray := prog_13_method_30_code
def yX11_back : MethodName := ⟨RX11, "back", "(I)I"⟩
abbrev cX11_read : ByteArray := prog_13_method_31_code
def yX11_read : MethodName := ⟨RX11, "read", "(I)I"⟩
abbrev cX11_asTold : ByteArray := prog_13_method_32_code
def yX11_asTold : MethodName := ⟨RX11, "asTold", "()V"⟩
abbrev cX11_lives : ByteArray := prog_13_method_33_code
def yX11_lives : MethodName := ⟨RX11, "lives", "(I)Z"⟩
abbrev cX11_weightOf : ByteArray := prog_13_method_34_code
def yX11_weightOf : MethodName := ⟨RX11, "weightOf", "(I)I"⟩
abbrev cX11_grows : ByteArray := prog_13_method_35_code
def yX11_grows : MethodName := ⟨RX11, "grows", "(I)V"⟩
abbrev cX11_goes : ByteArray := prog_13_method_36_code
def yX11_goes : MethodName := ⟨RX11, "goes", "(I)V"⟩
abbrev cX11_nextIn : ByteArray := prog_13_method_37_code
def yX11_nextIn : MethodName := ⟨RX11, "nextIn", "(I)I"⟩
abbrev cX11_shears : ByteArray := prog_13_method_38_code
def yX11_shears : MethodName := ⟨RX11, "shears", "(II)V"⟩
abbrev cX11_shearsAll : ByteArray := prog_13_method_39_code
def yX11_shearsAll : MethodName := ⟨RX11, "shearsAll", "(I)V"⟩
abbrev cX11_heaviestNow : ByteArray := prog_13_method_40_code
def yX11_heaviestNow : MethodName := ⟨RX11, "heaviestNow", "()I"⟩
abbrev cX11_keeps : ByteArray := prog_13_method_41_code
def yX11_keeps : MethodName := ⟨RX11, "keeps", "(I)V"⟩
abbrev cX11_runs : ByteArray := prog_13_method_42_code
def yX11_runs : MethodName := ⟨RX11, "runs", "()V"⟩
abbrev cX11_runsTold : ByteArray := prog_13_method_43_code
def yX11_runsTold : MethodName := ⟨RX11, "runsTold", "()V"⟩
abbrev cX11_woolOf : ByteArray := prog_13_method_44_code
def yX11_woolOf : MethodName := ⟨RX11, "woolOf", "(III)I"⟩
abbrev cX11_wool : ByteArray := prog_13_method_45_code
def yX11_wool : MethodName := ⟨RX11, "wool", "(III)I"⟩
abbrev cX11_diesOf : ByteArray := prog_13_method_46_code
def yX11_diesOf : MethodName := ⟨RX11, "diesOf", "(I)I"⟩
abbrev cX11_dies : ByteArray := prog_13_method_47_code
def yX11_dies : MethodName := ⟨RX11, "dies", "(I)I"⟩
abbrev cX11_clothOf : ByteArray := prog_13_method_48_code
def yX11_clothOf : MethodName := ⟨RX11, "clothOf", "(III)I"⟩
abbrev cX11_cloth : ByteArray := prog_13_method_49_code
def yX11_cloth : MethodName := ⟨RX11, "cloth", "(III)I"⟩
abbrev cX11_thornOf : ByteArray := prog_13_method_50_code
def yX11_thornOf : MethodName := ⟨RX11, "thornOf", "(I)I"⟩
abbrev cX11_thorn : ByteArray := prog_13_method_51_code
def yX11_thorn : MethodName := ⟨RX11, "thorn", "(I)I"⟩
abbrev cX11_taxOf : ByteArray := prog_13_method_52_code
def yX11_taxOf : MethodName := ⟨RX11, "taxOf", "(I)I"⟩
abbrev cX11_tax : ByteArray := prog_13_method_53_code
def yX11_tax : MethodName := ⟨RX11, "tax", "(I)I"⟩
abbrev cX11_heaviestOf : ByteArray := prog_13_method_54_code
def yX11_heaviestOf : MethodName := ⟨RX11, "heaviestOf", "(I)I"⟩
abbrev cX11_heaviest : ByteArray := prog_13_method_55_code
def yX11_heaviest : MethodName := ⟨RX11, "heaviest", "(I)I"⟩
abbrev cX11_firstOf : ByteArray := prog_13_method_56_code
def yX11_firstOf : MethodName := ⟨RX11, "firstOf", "(I)I"⟩
abbrev cX11_first : ByteArray := prog_13_method_57_code
def yX11_first : MethodName := ⟨RX11, "first", "(I)I"⟩
abbrev cX11_worthAll : ByteArray := prog_13_method_58_code
def yX11_worthAll : MethodName := ⟨RX11, "worthAll", "()I"⟩
abbrev cX11_planOf : ByteArray := prog_13_method_59_code
def yX11_planOf : MethodName := ⟨RX11, "planOf", "(II)I"⟩
abbrev cX11_plan : ByteArray := prog_13_method_60_code
def yX11_plan : MethodName := ⟨RX11, "plan", "(II)I"⟩
abbrev cX11_ofRow : ByteArray := prog_13_method_61_code
def yX11_ofRow : MethodName := ⟨RX11, "ofRow", "(II)I"⟩
abbrev cX11_isLight : ByteArray := prog_13_method_62_code
def yX11_isLight : MethodName := ⟨RX11, "isLight", "(III)Z"⟩
abbrev cX11_lightBy : ByteArray := prog_13_method_63_code
def yX11_lightBy : MethodName := ⟨RX11, "lightBy", "(II)I"⟩
abbrev cX11_light : ByteArray := prog_13_method_64_code
def yX11_light : MethodName := ⟨RX11, "light", "(III)I"⟩
abbrev cX11_livesMany : ByteArray := prog_13_method_65_code
def yX11_livesMany : MethodName := ⟨RX11, "livesMany", "()I"⟩
abbrev cX11_isSpared : ByteArray := prog_13_method_66_code
def yX11_isSpared : MethodName := ⟨RX11, "isSpared", "(I)Z"⟩
abbrev cX11_spareBy : ByteArray := prog_13_method_67_code
def yX11_spareBy : MethodName := ⟨RX11, "spareBy", "()I"⟩
abbrev cX11_spare : ByteArray := prog_13_method_68_code
def yX11_spare : MethodName := ⟨RX11, "spare", "(I)I"⟩
abbrev cX11_homeOf : ByteArray := prog_13_method_69_code
def yX11_homeOf : MethodName := ⟨RX11, "homeOf", "(II)I"⟩
abbrev cX11_home : ByteArray := prog_13_method_70_code
def yX11_home : MethodName := ⟨RX11, "home", "(II)I"⟩
abbrev cX11_seen : ByteArray := prog_13_method_71_code
def yX11_seen : MethodName := ⟨RX11, "seen", "(III)I"⟩
abbrev cX11_forget : ByteArray := prog_13_method_72_code
def yX11_forget : MethodName := ⟨RX11, "forget", "()I"⟩
abbrev cX11_isSeen : ByteArray := prog_13_method_73_code
def yX11_isSeen : MethodName := ⟨RX11, "isSeen", "()Z"⟩
abbrev cX11_neverNow : ByteArray := prog_13_method_74_code
def yX11_neverNow : MethodName := ⟨RX11, "neverNow", "()I"⟩
abbrev cX11_never : ByteArray := prog_13_method_75_code
def yX11_never : MethodName := ⟨RX11, "never", "()I"⟩
abbrev cX11_wasOf : ByteArray := prog_13_method_76_code
def yX11_wasOf : MethodName := ⟨RX11, "wasOf", "(II)I"⟩
abbrev cX11_was : ByteArray := prog_13_method_77_code
def yX11_was : MethodName := ⟨RX11, "was", "(II)I"⟩
abbrev cX11_askOf : ByteArray := prog_13_method_78_code
def yX11_askOf : MethodName := ⟨RX11, "askOf", "(I)I"⟩
abbrev cX11_ask : ByteArray := prog_13_method_79_code
def yX11_ask : MethodName := ⟨RX11, "ask", "(I)I"⟩
abbrev cX11_virtueOf : ByteArray := prog_13_method_80_code
def yX11_virtueOf : MethodName := ⟨RX11, "virtueOf", "(IIII)J"⟩
abbrev cX11_virtue : ByteArray := prog_13_method_81_code
def yX11_virtue : MethodName := ⟨RX11, "virtue", "(IIII)J"⟩
abbrev cX11_yearsOf : ByteArray := prog_13_method_82_code
def yX11_yearsOf : MethodName := ⟨RX11, "yearsOf", "(III)I"⟩
abbrev cX11_years : ByteArray := prog_13_method_83_code
def yX11_years : MethodName := ⟨RX11, "years", "(III)I"⟩
abbrev cX11_meets : ByteArray := prog_13_method_84_code
def yX11_meets : MethodName := ⟨RX11, "meets", "(I)I"⟩
abbrev cX11_isSheet : ByteArray := prog_13_method_85_code
def yX11_isSheet : MethodName := ⟨RX11, "isSheet", "(I)Z"⟩
abbrev cX11_sheet : ByteArray := prog_13_method_86_code
def yX11_sheet : MethodName := ⟨RX11, "sheet", "(III)I"⟩
abbrev cX11_lose : ByteArray := prog_13_method_87_code
def yX11_lose : MethodName := ⟨RX11, "lose", "(I)I"⟩
abbrev cX11_lacks : ByteArray := prog_13_method_88_code
def yX11_lacks : MethodName := ⟨RX11, "lacks", "(III)I"⟩
abbrev cX11_keep : ByteArray := prog_13_method_89_code
def yX11_keep : MethodName := ⟨RX11, "keep", "(III)V"⟩
abbrev cX11_put : ByteArray := prog_13_method_90_code
def yX11_put : MethodName := ⟨RX11, "put", "(IIII)I"⟩
abbrev cX11_get : ByteArray := prog_13_method_91_code
def yX11_get : MethodName := ⟨RX11, "get", "(III)I"⟩
abbrev cX11_copy : ByteArray := prog_13_method_92_code
def yX11_copy : MethodName := ⟨RX11, "copy", "(IIIII)I"⟩
abbrev cX11_write : ByteArray := prog_13_method_93_code
def yX11_write : MethodName := ⟨RX11, "write", "(II)I"⟩
abbrev cX11_sumOf : ByteArray := prog_13_method_94_code
def yX11_sumOf : MethodName := ⟨RX11, "sumOf", "(I)I"⟩
abbrev cX11_count : ByteArray := prog_13_method_95_code
def yX11_count : MethodName := ⟨RX11, "count", "(I)I"⟩
abbrev cX11_monthDigest : ByteArray := prog_13_method_96_code
def yX11_monthDigest : MethodName := ⟨RX11, "monthDigest", "(JII)J"⟩
abbrev cX11_personDigest : ByteArray := prog_13_method_97_code
def yX11_personDigest : MethodName := ⟨RX11, "personDigest", "(JI)J"⟩
abbrev cX11_deedDigest : ByteArray := prog_13_method_98_code
def yX11_deedDigest : MethodName := ⟨RX11, "deedDigest", "(JI)J"⟩
abbrev cX11_countyDigest : ByteArray := prog_13_method_99_code
def yX11_countyDigest : MethodName := ⟨RX11, "countyDigest", "(JI)J"⟩
abbrev cX11_thornDigest : ByteArray := prog_13_method_100_code
def yX11_thornDigest : MethodName := ⟨RX11, "thornDigest", "(JI)J"⟩
abbrev cX11_digest : ByteArray := prog_13_method_101_code
def yX11_digest : MethodName := ⟨RX11, "digest", "()J"⟩
abbrev cJ6_bitCount_0f7a4 : ByteArray := prog_15_method_49_code
def yJ6_bitCount_0f7a4 : MethodName := ⟨RJ6, "bitCount", "(I)I"⟩
abbrev cJ0_length_8abf5 : ByteArray := prog_17_method_54_code
def yJ0_length_8abf5 : MethodName := ⟨RJ0, "length", "()I"⟩
abbrev cJ0_indexOf_0f7a4 : ByteArray := prog_17_method_79_code
def yJ0_indexOf_0f7a4 : MethodName := ⟨RJ0, "indexOf", "(I)I"⟩
abbrev cJ0_indexOf_7cf53 : ByteArray := prog_17_method_80_code
def yJ0_indexOf_7cf53 : MethodName := ⟨RJ0, "indexOf", "(II)I"⟩
abbrev cJ0_coder_7d493 : ByteArray := prog_17_method_152_code
def yJ0_coder_7d493 : MethodName := ⟨RJ0, "coder", "()B"⟩
abbrev cJ0_isLatin1_aae02 : ByteArray := prog_17_method_154_code
def yJ0_isLatin1_aae02 : MethodName := ⟨RJ0, "isLatin1", "()Z"⟩
abbrev cJ1_canEncode_9a6ad : ByteArray := prog_18_method_4_code
def yJ1_canEncode_9a6ad : MethodName := ⟨RJ1, "canEncode", "(I)Z"⟩
abbrev cJ1_indexOf_4cfef : ByteArray := prog_18_method_22_code
def yJ1_indexOf_4cfef : MethodName := ⟨RJ1, "indexOf", "([BIII)I"⟩
abbrev cJ1_indexOfChar_4cfef : ByteArray := prog_18_method_23_code
def yJ1_indexOfChar_4cfef : MethodName := ⟨RJ1, "indexOfChar", "([BIII)I"⟩
abbrev cJ7_fill_d0a16 : ByteArray := prog_21_method_101_code
def yJ7_fill_d0a16 : MethodName := ⟨RJ7, "fill", "([JJ)V"⟩
abbrev cJ7_fill_53178 : ByteArray := prog_21_method_103_code
def yJ7_fill_53178 : MethodName := ⟨RJ7, "fill", "([II)V"⟩
end
