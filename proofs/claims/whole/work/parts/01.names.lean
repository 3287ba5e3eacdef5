/-- a private method of a class that the tables say can be made, by its rows of tables_1 -/
def lw_okq (q : MethodName × Nat) : Prop := (q.1.cls ≠ "java/lang/invoke/MethodHandle" ∧ q.1.cls ≠ "java/lang/invoke/VarHandle") ∧ Cond.instantiable q.1.cls q.2 ∈ tables_1 ∧ Cond.privateMethod q.1 ∈ tables_1 ∧ Cond.instanceMethod q.1 ∈ tables_1
theorem lw_p0 : lw_okq (⟨"SafeBuckets$BookReader", "resetItems", "(II)V"⟩, 6) := ⟨⟨by decide +kernel, by decide +kernel⟩, List.mem_of_getElem? (i := 60) (by decide +kernel), List.mem_of_getElem? (i := 376) (by decide +kernel), List.mem_of_getElem? (i := 377) (by decide +kernel)⟩
theorem lw_p1 : lw_okq (⟨"SafeBuckets$BookReader", "readClause", "(LSafeBuckets$Tape;)Z"⟩, 6) := ⟨⟨by decide +kernel, by decide +kernel⟩, List.mem_of_getElem? (i := 60) (by decide +kernel), List.mem_of_getElem? (i := 385) (by decide +kernel), List.mem_of_getElem? (i := 386) (by decide +kernel)⟩
theorem lw_p2 : lw_okq (⟨"SafeBuckets$BookReader", "readItems", "(LSafeBuckets$Tape;II)Z"⟩, 6) := ⟨⟨by decide +kernel, by decide +kernel⟩, List.mem_of_getElem? (i := 60) (by decide +kernel), List.mem_of_getElem? (i := 393) (by decide +kernel), List.mem_of_getElem? (i := 394) (by decide +kernel)⟩
theorem lw_p3 : lw_okq (⟨"SafeBuckets$BookReader", "fits", "()Z"⟩, 6) := ⟨⟨by decide +kernel, by decide +kernel⟩, List.mem_of_getElem? (i := 60) (by decide +kernel), List.mem_of_getElem? (i := 458) (by decide +kernel), List.mem_of_getElem? (i := 459) (by decide +kernel)⟩
theorem lw_p4 : lw_okq (⟨"SafeBuckets$Where", "readUnit", "(LSafeBuckets$Tape;I)Z"⟩, 5) := ⟨⟨by decide +kernel, by decide +kernel⟩, List.mem_of_getElem? (i := 192) (by decide +kernel), List.mem_of_getElem? (i := 471) (by decide +kernel), List.mem_of_getElem? (i := 472) (by decide +kernel)⟩
theorem lw_p5 : lw_okq (⟨"SafeBuckets", "tellBook", "()I"⟩, 14) := ⟨⟨by decide +kernel, by decide +kernel⟩, List.mem_of_getElem? (i := 26) (by decide +kernel), List.mem_of_getElem? (i := 550) (by decide +kernel), List.mem_of_getElem? (i := 551) (by decide +kernel)⟩
theorem lw_p6 : lw_okq (⟨"SafeBuckets$Layout", "findErrors", "(LSafeBuckets$Lane;)V"⟩, 6) := ⟨⟨by decide +kernel, by decide +kernel⟩, List.mem_of_getElem? (i := 239) (by decide +kernel), List.mem_of_getElem? (i := 591) (by decide +kernel), List.mem_of_getElem? (i := 592) (by decide +kernel)⟩
theorem lw_p7 : lw_okq (⟨"SafeBuckets$Layout", "seek", "(II)V"⟩, 6) := ⟨⟨by decide +kernel, by decide +kernel⟩, List.mem_of_getElem? (i := 239) (by decide +kernel), List.mem_of_getElem? (i := 596) (by decide +kernel), List.mem_of_getElem? (i := 597) (by decide +kernel)⟩
theorem lw_p8 : lw_okq (⟨"SafeBuckets$Lane", "weigh", "(I)V"⟩, 4) := ⟨⟨by decide +kernel, by decide +kernel⟩, List.mem_of_getElem? (i := 103) (by decide +kernel), List.mem_of_getElem? (i := 605) (by decide +kernel), List.mem_of_getElem? (i := 606) (by decide +kernel)⟩
theorem lw_p9 : lw_okq (⟨"SafeBuckets", "tellWhere", "()I"⟩, 14) := ⟨⟨by decide +kernel, by decide +kernel⟩, List.mem_of_getElem? (i := 26) (by decide +kernel), List.mem_of_getElem? (i := 622) (by decide +kernel), List.mem_of_getElem? (i := 623) (by decide +kernel)⟩
theorem lw_p10 : lw_okq (⟨"SafeBuckets", "hasBook", "()Z"⟩, 14) := ⟨⟨by decide +kernel, by decide +kernel⟩, List.mem_of_getElem? (i := 26) (by decide +kernel), List.mem_of_getElem? (i := 630) (by decide +kernel), List.mem_of_getElem? (i := 631) (by decide +kernel)⟩
theorem lw_p11 : lw_okq (⟨"SafeBuckets", "hasCell", "(III)Z"⟩, 14) := ⟨⟨by decide +kernel, by decide +kernel⟩, List.mem_of_getElem? (i := 26) (by decide +kernel), List.mem_of_getElem? (i := 638) (by decide +kernel), List.mem_of_getElem? (i := 639) (by decide +kernel)⟩
theorem lw_p12 : lw_okq (⟨"SafeBuckets", "hasTable", "(I)Z"⟩, 14) := ⟨⟨by decide +kernel, by decide +kernel⟩, List.mem_of_getElem? (i := 26) (by decide +kernel), List.mem_of_getElem? (i := 642) (by decide +kernel), List.mem_of_getElem? (i := 643) (by decide +kernel)⟩
theorem lw_p13 : lw_okq (⟨"SafeBuckets", "hasColumn", "(II)Z"⟩, 14) := ⟨⟨by decide +kernel, by decide +kernel⟩, List.mem_of_getElem? (i := 26) (by decide +kernel), List.mem_of_getElem? (i := 658) (by decide +kernel), List.mem_of_getElem? (i := 659) (by decide +kernel)⟩
theorem lw_p14 : lw_okq (⟨"SafeBuckets", "solve", "(III)Z"⟩, 14) := ⟨⟨by decide +kernel, by decide +kernel⟩, List.mem_of_getElem? (i := 26) (by decide +kernel), List.mem_of_getElem? (i := 701) (by decide +kernel), List.mem_of_getElem? (i := 702) (by decide +kernel)⟩
theorem lw_p15 : lw_okq (⟨"SafeBuckets", "whyNoAdd", "(IIII)I"⟩, 14) := ⟨⟨by decide +kernel, by decide +kernel⟩, List.mem_of_getElem? (i := 26) (by decide +kernel), List.mem_of_getElem? (i := 728) (by decide +kernel), List.mem_of_getElem? (i := 729) (by decide +kernel)⟩
def lw_privs_1 : List (MethodName × Nat) := [(⟨"SafeBuckets$BookReader", "resetItems", "(II)V"⟩, 6), (⟨"SafeBuckets$BookReader", "readClause", "(LSafeBuckets$Tape;)Z"⟩, 6), (⟨"SafeBuckets$BookReader", "readItems", "(LSafeBuckets$Tape;II)Z"⟩, 6), (⟨"SafeBuckets$BookReader", "fits", "()Z"⟩, 6), (⟨"SafeBuckets$Where", "readUnit", "(LSafeBuckets$Tape;I)Z"⟩, 5), (⟨"SafeBuckets", "tellBook", "()I"⟩, 14), (⟨"SafeBuckets$Layout", "findErrors", "(LSafeBuckets$Lane;)V"⟩, 6), (⟨"SafeBuckets$Layout", "seek", "(II)V"⟩, 6), (⟨"SafeBuckets$Lane", "weigh", "(I)V"⟩, 4), (⟨"SafeBuckets", "tellWhere", "()I"⟩, 14), (⟨"SafeBuckets", "hasBook", "()Z"⟩, 14), (⟨"SafeBuckets", "hasCell", "(III)Z"⟩, 14), (⟨"SafeBuckets", "hasTable", "(I)Z"⟩, 14), (⟨"SafeBuckets", "hasColumn", "(II)Z"⟩, 14), (⟨"SafeBuckets", "solve", "(III)Z"⟩, 14), (⟨"SafeBuckets", "whyNoAdd", "(IIII)I"⟩, 14)]
theorem lw_r1 : ∀ q ∈ lw_privs_1, lw_okq q := List.forall_mem_cons.mpr ⟨lw_p0, List.forall_mem_cons.mpr ⟨lw_p1, List.forall_mem_cons.mpr ⟨lw_p2, List.forall_mem_cons.mpr ⟨lw_p3, List.forall_mem_cons.mpr ⟨lw_p4, List.forall_mem_cons.mpr ⟨lw_p5, List.forall_mem_cons.mpr ⟨lw_p6, List.forall_mem_cons.mpr ⟨lw_p7, List.forall_mem_cons.mpr ⟨lw_p8, List.forall_mem_cons.mpr ⟨lw_p9, List.forall_mem_cons.mpr ⟨lw_p10, List.forall_mem_cons.mpr ⟨lw_p11, List.forall_mem_cons.mpr ⟨lw_p12, List.forall_mem_cons.mpr ⟨lw_p13, List.forall_mem_cons.mpr ⟨lw_p14, List.forall_mem_cons.mpr ⟨lw_p15, fun _ h => absurd h List.not_mem_nil⟩⟩⟩⟩⟩⟩⟩⟩⟩⟩⟩⟩⟩⟩⟩⟩
theorem lw_p16 : lw_okq (⟨"SafeBuckets", "whyNoRows", "(IIII)I"⟩, 14) := ⟨⟨by decide +kernel, by decide +kernel⟩, List.mem_of_getElem? (i := 26) (by decide +kernel), List.mem_of_getElem? (i := 732) (by decide +kernel), List.mem_of_getElem? (i := 733) (by decide +kernel)⟩
theorem lw_p17 : lw_okq (⟨"SafeBuckets", "refuse", "(I)I"⟩, 14) := ⟨⟨by decide +kernel, by decide +kernel⟩, List.mem_of_getElem? (i := 26) (by decide +kernel), List.mem_of_getElem? (i := 736) (by decide +kernel), List.mem_of_getElem? (i := 737) (by decide +kernel)⟩
theorem lw_p18 : lw_okq (⟨"SafeBuckets", "doChange", "(IIII)V"⟩, 14) := ⟨⟨by decide +kernel, by decide +kernel⟩, List.mem_of_getElem? (i := 26) (by decide +kernel), List.mem_of_getElem? (i := 740) (by decide +kernel), List.mem_of_getElem? (i := 741) (by decide +kernel)⟩
theorem lw_p19 : lw_okq (⟨"SafeBuckets$Lane", "bucketOf", "(I)I"⟩, 4) := ⟨⟨by decide +kernel, by decide +kernel⟩, List.mem_of_getElem? (i := 103) (by decide +kernel), List.mem_of_getElem? (i := 762) (by decide +kernel), List.mem_of_getElem? (i := 763) (by decide +kernel)⟩
theorem lw_p20 : lw_okq (⟨"SafeBuckets", "whyNoDrop", "(IIII)I"⟩, 14) := ⟨⟨by decide +kernel, by decide +kernel⟩, List.mem_of_getElem? (i := 26) (by decide +kernel), List.mem_of_getElem? (i := 785) (by decide +kernel), List.mem_of_getElem? (i := 786) (by decide +kernel)⟩
theorem lw_p21 : lw_okq (⟨"SafeBuckets", "whyNoBuild", "(II)I"⟩, 14) := ⟨⟨by decide +kernel, by decide +kernel⟩, List.mem_of_getElem? (i := 26) (by decide +kernel), List.mem_of_getElem? (i := 797) (by decide +kernel), List.mem_of_getElem? (i := 798) (by decide +kernel)⟩
theorem lw_p22 : lw_okq (⟨"SafeBuckets", "doBuild", "(II)V"⟩, 14) := ⟨⟨by decide +kernel, by decide +kernel⟩, List.mem_of_getElem? (i := 26) (by decide +kernel), List.mem_of_getElem? (i := 801) (by decide +kernel), List.mem_of_getElem? (i := 802) (by decide +kernel)⟩
theorem lw_p23 : lw_okq (⟨"SafeBuckets", "passYear", "()V"⟩, 14) := ⟨⟨by decide +kernel, by decide +kernel⟩, List.mem_of_getElem? (i := 26) (by decide +kernel), List.mem_of_getElem? (i := 814) (by decide +kernel), List.mem_of_getElem? (i := 815) (by decide +kernel)⟩
theorem lw_p24 : lw_okq (⟨"SafeBuckets", "draw", "(I)I"⟩, 14) := ⟨⟨by decide +kernel, by decide +kernel⟩, List.mem_of_getElem? (i := 26) (by decide +kernel), List.mem_of_getElem? (i := 818) (by decide +kernel), List.mem_of_getElem? (i := 819) (by decide +kernel)⟩
theorem lw_p25 : lw_okq (⟨"SafeBuckets", "drawOrMissing", "(I)I"⟩, 14) := ⟨⟨by decide +kernel, by decide +kernel⟩, List.mem_of_getElem? (i := 26) (by decide +kernel), List.mem_of_getElem? (i := 824) (by decide +kernel), List.mem_of_getElem? (i := 825) (by decide +kernel)⟩
theorem lw_p26 : lw_okq (⟨"SafeBuckets$Past", "restore", "(LSafeBuckets$Sheet;)V"⟩, 3) := ⟨⟨by decide +kernel, by decide +kernel⟩, List.mem_of_getElem? (i := 222) (by decide +kernel), List.mem_of_getElem? (i := 848) (by decide +kernel), List.mem_of_getElem? (i := 849) (by decide +kernel)⟩
theorem lw_p27 : lw_okq (⟨"SafeBuckets", "hasWhere", "(I)Z"⟩, 14) := ⟨⟨by decide +kernel, by decide +kernel⟩, List.mem_of_getElem? (i := 26) (by decide +kernel), List.mem_of_getElem? (i := 870) (by decide +kernel), List.mem_of_getElem? (i := 871) (by decide +kernel)⟩
theorem lw_p28 : lw_okq (⟨"SafeBuckets", "beginLook", "()V"⟩, 14) := ⟨⟨by decide +kernel, by decide +kernel⟩, List.mem_of_getElem? (i := 26) (by decide +kernel), List.mem_of_getElem? (i := 874) (by decide +kernel), List.mem_of_getElem? (i := 875) (by decide +kernel)⟩
theorem lw_p29 : lw_okq (⟨"SafeBuckets", "take", "(I)V"⟩, 14) := ⟨⟨by decide +kernel, by decide +kernel⟩, List.mem_of_getElem? (i := 26) (by decide +kernel), List.mem_of_getElem? (i := 878) (by decide +kernel), List.mem_of_getElem? (i := 879) (by decide +kernel)⟩
theorem lw_p30 : lw_okq (⟨"SafeBuckets", "endLook", "(J)J"⟩, 14) := ⟨⟨by decide +kernel, by decide +kernel⟩, List.mem_of_getElem? (i := 26) (by decide +kernel), List.mem_of_getElem? (i := 900) (by decide +kernel), List.mem_of_getElem? (i := 901) (by decide +kernel)⟩
theorem lw_p31 : lw_okq (⟨"SafeBuckets$Bounds", "findUnit", "(LSafeBuckets$Where;ILSafeBuckets$Lane;)V"⟩, 9) := ⟨⟨by decide +kernel, by decide +kernel⟩, List.mem_of_getElem? (i := 267) (by decide +kernel), List.mem_of_getElem? (i := 909) (by decide +kernel), List.mem_of_getElem? (i := 910) (by decide +kernel)⟩
def lw_privs_2 : List (MethodName × Nat) := [(⟨"SafeBuckets", "whyNoRows", "(IIII)I"⟩, 14), (⟨"SafeBuckets", "refuse", "(I)I"⟩, 14), (⟨"SafeBuckets", "doChange", "(IIII)V"⟩, 14), (⟨"SafeBuckets$Lane", "bucketOf", "(I)I"⟩, 4), (⟨"SafeBuckets", "whyNoDrop", "(IIII)I"⟩, 14), (⟨"SafeBuckets", "whyNoBuild", "(II)I"⟩, 14), (⟨"SafeBuckets", "doBuild", "(II)V"⟩, 14), (⟨"SafeBuckets", "passYear", "()V"⟩, 14), (⟨"SafeBuckets", "draw", "(I)I"⟩, 14), (⟨"SafeBuckets", "drawOrMissing", "(I)I"⟩, 14), (⟨"SafeBuckets$Past", "restore", "(LSafeBuckets$Sheet;)V"⟩, 3), (⟨"SafeBuckets", "hasWhere", "(I)Z"⟩, 14), (⟨"SafeBuckets", "beginLook", "()V"⟩, 14), (⟨"SafeBuckets", "take", "(I)V"⟩, 14), (⟨"SafeBuckets", "endLook", "(J)J"⟩, 14), (⟨"SafeBuckets$Bounds", "findUnit", "(LSafeBuckets$Where;ILSafeBuckets$Lane;)V"⟩, 9)]
theorem lw_r2 : ∀ q ∈ lw_privs_2, lw_okq q := List.forall_mem_cons.mpr ⟨lw_p16, List.forall_mem_cons.mpr ⟨lw_p17, List.forall_mem_cons.mpr ⟨lw_p18, List.forall_mem_cons.mpr ⟨lw_p19, List.forall_mem_cons.mpr ⟨lw_p20, List.forall_mem_cons.mpr ⟨lw_p21, List.forall_mem_cons.mpr ⟨lw_p22, List.forall_mem_cons.mpr ⟨lw_p23, List.forall_mem_cons.mpr ⟨lw_p24, List.forall_mem_cons.mpr ⟨lw_p25, List.forall_mem_cons.mpr ⟨lw_p26, List.forall_mem_cons.mpr ⟨lw_p27, List.forall_mem_cons.mpr ⟨lw_p28, List.forall_mem_cons.mpr ⟨lw_p29, List.forall_mem_cons.mpr ⟨lw_p30, List.forall_mem_cons.mpr ⟨lw_p31, fun _ h => absurd h List.not_mem_nil⟩⟩⟩⟩⟩⟩⟩⟩⟩⟩⟩⟩⟩⟩⟩⟩
theorem lw_p32 : lw_okq (⟨"SafeBuckets$Bounds", "addBucket", "(LSafeBuckets$Lane;II)V"⟩, 9) := ⟨⟨by decide +kernel, by decide +kernel⟩, List.mem_of_getElem? (i := 267) (by decide +kernel), List.mem_of_getElem? (i := 920) (by decide +kernel), List.mem_of_getElem? (i := 921) (by decide +kernel)⟩
theorem lw_p33 : lw_okq (⟨"SafeBuckets$Lane", "commonValues", "(ILSafeBuckets$Lane;I)I"⟩, 4) := ⟨⟨by decide +kernel, by decide +kernel⟩, List.mem_of_getElem? (i := 103) (by decide +kernel), List.mem_of_getElem? (i := 950) (by decide +kernel), List.mem_of_getElem? (i := 951) (by decide +kernel)⟩
theorem lw_p34 : lw_okq (⟨"SafeBuckets$Lane", "richestOutside", "(I)I"⟩, 4) := ⟨⟨by decide +kernel, by decide +kernel⟩, List.mem_of_getElem? (i := 103) (by decide +kernel), List.mem_of_getElem? (i := 961) (by decide +kernel), List.mem_of_getElem? (i := 962) (by decide +kernel)⟩
theorem lw_p35 : lw_okq (⟨"SafeBuckets", "asIfBuilt", "(LSafeBuckets$Lane;)LSafeBuckets$Lane;"⟩, 14) := ⟨⟨by decide +kernel, by decide +kernel⟩, List.mem_of_getElem? (i := 26) (by decide +kernel), List.mem_of_getElem? (i := 1002) (by decide +kernel), List.mem_of_getElem? (i := 1003) (by decide +kernel)⟩
theorem lw_p36 : lw_okq (⟨"java/lang/Throwable", "fillInStackTrace", "(I)Ljava/lang/Throwable;"⟩, 6) := ⟨⟨by decide +kernel, by decide +kernel⟩, List.mem_of_getElem? (i := 1130) (by decide +kernel), List.mem_of_getElem? (i := 1128) (by decide +kernel), List.mem_of_getElem? (i := 1129) (by decide +kernel)⟩
theorem lw_p37 : lw_okq (⟨"SafeBucketsModel", "readBook", "()I"⟩, 33) := ⟨⟨by decide +kernel, by decide +kernel⟩, List.mem_of_getElem? (i := 1159) (by decide +kernel), List.mem_of_getElem? (i := 1288) (by decide +kernel), List.mem_of_getElem? (i := 1289) (by decide +kernel)⟩
theorem lw_p38 : lw_okq (⟨"SafeBucketsModel", "ahead", "()I"⟩, 33) := ⟨⟨by decide +kernel, by decide +kernel⟩, List.mem_of_getElem? (i := 1159) (by decide +kernel), List.mem_of_getElem? (i := 1295) (by decide +kernel), List.mem_of_getElem? (i := 1296) (by decide +kernel)⟩
theorem lw_p39 : lw_okq (⟨"SafeBucketsModel", "here", "()I"⟩, 33) := ⟨⟨by decide +kernel, by decide +kernel⟩, List.mem_of_getElem? (i := 1159) (by decide +kernel), List.mem_of_getElem? (i := 1299) (by decide +kernel), List.mem_of_getElem? (i := 1300) (by decide +kernel)⟩
theorem lw_p40 : lw_okq (⟨"SafeBucketsModel", "items", "(I[III)V"⟩, 33) := ⟨⟨by decide +kernel, by decide +kernel⟩, List.mem_of_getElem? (i := 1159) (by decide +kernel), List.mem_of_getElem? (i := 1303) (by decide +kernel), List.mem_of_getElem? (i := 1304) (by decide +kernel)⟩
theorem lw_p41 : lw_okq (⟨"SafeBucketsModel", "number", "(III)I"⟩, 33) := ⟨⟨by decide +kernel, by decide +kernel⟩, List.mem_of_getElem? (i := 1159) (by decide +kernel), List.mem_of_getElem? (i := 1319) (by decide +kernel), List.mem_of_getElem? (i := 1320) (by decide +kernel)⟩
theorem lw_p42 : lw_okq (⟨"SafeBucketsModel", "bad", "()V"⟩, 33) := ⟨⟨by decide +kernel, by decide +kernel⟩, List.mem_of_getElem? (i := 1159) (by decide +kernel), List.mem_of_getElem? (i := 1326) (by decide +kernel), List.mem_of_getElem? (i := 1327) (by decide +kernel)⟩
theorem lw_p43 : lw_okq (⟨"SafeBucketsModel", "isWhole", "()Z"⟩, 33) := ⟨⟨by decide +kernel, by decide +kernel⟩, List.mem_of_getElem? (i := 1159) (by decide +kernel), List.mem_of_getElem? (i := 1330) (by decide +kernel), List.mem_of_getElem? (i := 1331) (by decide +kernel)⟩
theorem lw_p44 : lw_okq (⟨"SafeBucketsModel", "readWhere", "(I)I"⟩, 33) := ⟨⟨by decide +kernel, by decide +kernel⟩, List.mem_of_getElem? (i := 1159) (by decide +kernel), List.mem_of_getElem? (i := 1334) (by decide +kernel), List.mem_of_getElem? (i := 1335) (by decide +kernel)⟩
theorem lw_p45 : lw_okq (⟨"SafeBucketsModel", "readUnit", "(II)V"⟩, 33) := ⟨⟨by decide +kernel, by decide +kernel⟩, List.mem_of_getElem? (i := 1159) (by decide +kernel), List.mem_of_getElem? (i := 1338) (by decide +kernel), List.mem_of_getElem? (i := 1339) (by decide +kernel)⟩
theorem lw_p46 : lw_okq (⟨"SafeBucketsModel", "takeBook", "()I"⟩, 33) := ⟨⟨by decide +kernel, by decide +kernel⟩, List.mem_of_getElem? (i := 1159) (by decide +kernel), List.mem_of_getElem? (i := 1346) (by decide +kernel), List.mem_of_getElem? (i := 1347) (by decide +kernel)⟩
theorem lw_p47 : lw_okq (⟨"SafeBucketsModel", "buildNow", "(II)V"⟩, 33) := ⟨⟨by decide +kernel, by decide +kernel⟩, List.mem_of_getElem? (i := 1159) (by decide +kernel), List.mem_of_getElem? (i := 1353) (by decide +kernel), List.mem_of_getElem? (i := 1354) (by decide +kernel)⟩
def lw_privs_3 : List (MethodName × Nat) := [(⟨"SafeBuckets$Bounds", "addBucket", "(LSafeBuckets$Lane;II)V"⟩, 9), (⟨"SafeBuckets$Lane", "commonValues", "(ILSafeBuckets$Lane;I)I"⟩, 4), (⟨"SafeBuckets$Lane", "richestOutside", "(I)I"⟩, 4), (⟨"SafeBuckets", "asIfBuilt", "(LSafeBuckets$Lane;)LSafeBuckets$Lane;"⟩, 14), (⟨"java/lang/Throwable", "fillInStackTrace", "(I)Ljava/lang/Throwable;"⟩, 6), (⟨"SafeBucketsModel", "readBook", "()I"⟩, 33), (⟨"SafeBucketsModel", "ahead", "()I"⟩, 33), (⟨"SafeBucketsModel", "here", "()I"⟩, 33), (⟨"SafeBucketsModel", "items", "(I[III)V"⟩, 33), (⟨"SafeBucketsModel", "number", "(III)I"⟩, 33), (⟨"SafeBucketsModel", "bad", "()V"⟩, 33), (⟨"SafeBucketsModel", "isWhole", "()Z"⟩, 33), (⟨"SafeBucketsModel", "readWhere", "(I)I"⟩, 33), (⟨"SafeBucketsModel", "readUnit", "(II)V"⟩, 33), (⟨"SafeBucketsModel", "takeBook", "()I"⟩, 33), (⟨"SafeBucketsModel", "buildNow", "(II)V"⟩, 33)]
theorem lw_r3 : ∀ q ∈ lw_privs_3, lw_okq q := List.forall_mem_cons.mpr ⟨lw_p32, List.forall_mem_cons.mpr ⟨lw_p33, List.forall_mem_cons.mpr ⟨lw_p34, List.forall_mem_cons.mpr ⟨lw_p35, List.forall_mem_cons.mpr ⟨lw_p36, List.forall_mem_cons.mpr ⟨lw_p37, List.forall_mem_cons.mpr ⟨lw_p38, List.forall_mem_cons.mpr ⟨lw_p39, List.forall_mem_cons.mpr ⟨lw_p40, List.forall_mem_cons.mpr ⟨lw_p41, List.forall_mem_cons.mpr ⟨lw_p42, List.forall_mem_cons.mpr ⟨lw_p43, List.forall_mem_cons.mpr ⟨lw_p44, List.forall_mem_cons.mpr ⟨lw_p45, List.forall_mem_cons.mpr ⟨lw_p46, List.forall_mem_cons.mpr ⟨lw_p47, fun _ h => absurd h List.not_mem_nil⟩⟩⟩⟩⟩⟩⟩⟩⟩⟩⟩⟩⟩⟩⟩⟩
theorem lw_p48 : lw_okq (⟨"SafeBucketsModel", "layCounts", "(II)V"⟩, 33) := ⟨⟨by decide +kernel, by decide +kernel⟩, List.mem_of_getElem? (i := 1159) (by decide +kernel), List.mem_of_getElem? (i := 1357) (by decide +kernel), List.mem_of_getElem? (i := 1358) (by decide +kernel)⟩
theorem lw_p49 : lw_okq (⟨"SafeBucketsModel", "countAt", "(III)I"⟩, 33) := ⟨⟨by decide +kernel, by decide +kernel⟩, List.mem_of_getElem? (i := 1159) (by decide +kernel), List.mem_of_getElem? (i := 1361) (by decide +kernel), List.mem_of_getElem? (i := 1362) (by decide +kernel)⟩
theorem lw_p50 : lw_okq (⟨"SafeBucketsModel", "layBorders", "(I)V"⟩, 33) := ⟨⟨by decide +kernel, by decide +kernel⟩, List.mem_of_getElem? (i := 1159) (by decide +kernel), List.mem_of_getElem? (i := 1366) (by decide +kernel), List.mem_of_getElem? (i := 1367) (by decide +kernel)⟩
theorem lw_p51 : lw_okq (⟨"SafeBucketsModel", "layLeast", "(I)V"⟩, 33) := ⟨⟨by decide +kernel, by decide +kernel⟩, List.mem_of_getElem? (i := 1159) (by decide +kernel), List.mem_of_getElem? (i := 1370) (by decide +kernel), List.mem_of_getElem? (i := 1371) (by decide +kernel)⟩
theorem lw_p52 : lw_okq (⟨"SafeBucketsModel", "errorOf", "(II)J"⟩, 33) := ⟨⟨by decide +kernel, by decide +kernel⟩, List.mem_of_getElem? (i := 1159) (by decide +kernel), List.mem_of_getElem? (i := 1378) (by decide +kernel), List.mem_of_getElem? (i := 1379) (by decide +kernel)⟩
theorem lw_p53 : lw_okq (⟨"SafeBucketsModel", "put", "(IIIII)V"⟩, 33) := ⟨⟨by decide +kernel, by decide +kernel⟩, List.mem_of_getElem? (i := 1159) (by decide +kernel), List.mem_of_getElem? (i := 1391) (by decide +kernel), List.mem_of_getElem? (i := 1392) (by decide +kernel)⟩
theorem lw_p54 : lw_okq (⟨"SafeBucketsModel", "isBook", "()Z"⟩, 33) := ⟨⟨by decide +kernel, by decide +kernel⟩, List.mem_of_getElem? (i := 1159) (by decide +kernel), List.mem_of_getElem? (i := 1399) (by decide +kernel), List.mem_of_getElem? (i := 1400) (by decide +kernel)⟩
theorem lw_p55 : lw_okq (⟨"SafeBucketsModel", "isTable", "(I)Z"⟩, 33) := ⟨⟨by decide +kernel, by decide +kernel⟩, List.mem_of_getElem? (i := 1159) (by decide +kernel), List.mem_of_getElem? (i := 1408) (by decide +kernel), List.mem_of_getElem? (i := 1409) (by decide +kernel)⟩
theorem lw_p56 : lw_okq (⟨"SafeBucketsModel", "rowsOf", "(I)I"⟩, 33) := ⟨⟨by decide +kernel, by decide +kernel⟩, List.mem_of_getElem? (i := 1159) (by decide +kernel), List.mem_of_getElem? (i := 1413) (by decide +kernel), List.mem_of_getElem? (i := 1414) (by decide +kernel)⟩
theorem lw_p57 : lw_okq (⟨"SafeBucketsModel", "isValue", "(II)Z"⟩, 33) := ⟨⟨by decide +kernel, by decide +kernel⟩, List.mem_of_getElem? (i := 1159) (by decide +kernel), List.mem_of_getElem? (i := 1421) (by decide +kernel), List.mem_of_getElem? (i := 1422) (by decide +kernel)⟩
theorem lw_p58 : lw_okq (⟨"SafeBucketsModel", "isColumn", "(II)Z"⟩, 33) := ⟨⟨by decide +kernel, by decide +kernel⟩, List.mem_of_getElem? (i := 1159) (by decide +kernel), List.mem_of_getElem? (i := 1430) (by decide +kernel), List.mem_of_getElem? (i := 1431) (by decide +kernel)⟩
theorem lw_p59 : lw_okq (⟨"SafeBucketsModel", "bucketMany", "(II)I"⟩, 33) := ⟨⟨by decide +kernel, by decide +kernel⟩, List.mem_of_getElem? (i := 1159) (by decide +kernel), List.mem_of_getElem? (i := 1438) (by decide +kernel), List.mem_of_getElem? (i := 1439) (by decide +kernel)⟩
theorem lw_p60 : lw_okq (⟨"SafeBucketsModel", "of", "(IIII)I"⟩, 33) := ⟨⟨by decide +kernel, by decide +kernel⟩, List.mem_of_getElem? (i := 1159) (by decide +kernel), List.mem_of_getElem? (i := 1442) (by decide +kernel), List.mem_of_getElem? (i := 1443) (by decide +kernel)⟩
theorem lw_p61 : lw_okq (⟨"SafeBucketsModel", "worst", "(II)I"⟩, 33) := ⟨⟨by decide +kernel, by decide +kernel⟩, List.mem_of_getElem? (i := 1159) (by decide +kernel), List.mem_of_getElem? (i := 1451) (by decide +kernel), List.mem_of_getElem? (i := 1452) (by decide +kernel)⟩
theorem lw_p62 : lw_okq (⟨"SafeBucketsModel", "isBuilding", "(III)Z"⟩, 33) := ⟨⟨by decide +kernel, by decide +kernel⟩, List.mem_of_getElem? (i := 1159) (by decide +kernel), List.mem_of_getElem? (i := 1459) (by decide +kernel), List.mem_of_getElem? (i := 1460) (by decide +kernel)⟩
theorem lw_p63 : lw_okq (⟨"SafeBucketsModel", "triedFrom", "(IIZ)I"⟩, 33) := ⟨⟨by decide +kernel, by decide +kernel⟩, List.mem_of_getElem? (i := 1159) (by decide +kernel), List.mem_of_getElem? (i := 1471) (by decide +kernel), List.mem_of_getElem? (i := 1472) (by decide +kernel)⟩
def lw_privs_4 : List (MethodName × Nat) := [(⟨"SafeBucketsModel", "layCounts", "(II)V"⟩, 33), (⟨"SafeBucketsModel", "countAt", "(III)I"⟩, 33), (⟨"SafeBucketsModel", "layBorders", "(I)V"⟩, 33), (⟨"SafeBucketsModel", "layLeast", "(I)V"⟩, 33), (⟨"SafeBucketsModel", "errorOf", "(II)J"⟩, 33), (⟨"SafeBucketsModel", "put", "(IIIII)V"⟩, 33), (⟨"SafeBucketsModel", "isBook", "()Z"⟩, 33), (⟨"SafeBucketsModel", "isTable", "(I)Z"⟩, 33), (⟨"SafeBucketsModel", "rowsOf", "(I)I"⟩, 33), (⟨"SafeBucketsModel", "isValue", "(II)Z"⟩, 33), (⟨"SafeBucketsModel", "isColumn", "(II)Z"⟩, 33), (⟨"SafeBucketsModel", "bucketMany", "(II)I"⟩, 33), (⟨"SafeBucketsModel", "of", "(IIII)I"⟩, 33), (⟨"SafeBucketsModel", "worst", "(II)I"⟩, 33), (⟨"SafeBucketsModel", "isBuilding", "(III)Z"⟩, 33), (⟨"SafeBucketsModel", "triedFrom", "(IIZ)I"⟩, 33)]
theorem lw_r4 : ∀ q ∈ lw_privs_4, lw_okq q := List.forall_mem_cons.mpr ⟨lw_p48, List.forall_mem_cons.mpr ⟨lw_p49, List.forall_mem_cons.mpr ⟨lw_p50, List.forall_mem_cons.mpr ⟨lw_p51, List.forall_mem_cons.mpr ⟨lw_p52, List.forall_mem_cons.mpr ⟨lw_p53, List.forall_mem_cons.mpr ⟨lw_p54, List.forall_mem_cons.mpr ⟨lw_p55, List.forall_mem_cons.mpr ⟨lw_p56, List.forall_mem_cons.mpr ⟨lw_p57, List.forall_mem_cons.mpr ⟨lw_p58, List.forall_mem_cons.mpr ⟨lw_p59, List.forall_mem_cons.mpr ⟨lw_p60, List.forall_mem_cons.mpr ⟨lw_p61, List.forall_mem_cons.mpr ⟨lw_p62, List.forall_mem_cons.mpr ⟨lw_p63, fun _ h => absurd h List.not_mem_nil⟩⟩⟩⟩⟩⟩⟩⟩⟩⟩⟩⟩⟩⟩⟩⟩
theorem lw_p64 : lw_okq (⟨"SafeBucketsModel", "whyAdd", "(IIII)I"⟩, 33) := ⟨⟨by decide +kernel, by decide +kernel⟩, List.mem_of_getElem? (i := 1159) (by decide +kernel), List.mem_of_getElem? (i := 1483) (by decide +kernel), List.mem_of_getElem? (i := 1484) (by decide +kernel)⟩
theorem lw_p65 : lw_okq (⟨"SafeBucketsModel", "areThere", "(III)Z"⟩, 33) := ⟨⟨by decide +kernel, by decide +kernel⟩, List.mem_of_getElem? (i := 1159) (by decide +kernel), List.mem_of_getElem? (i := 1487) (by decide +kernel), List.mem_of_getElem? (i := 1488) (by decide +kernel)⟩
theorem lw_p66 : lw_okq (⟨"SafeBucketsModel", "isRefused", "(IIII)Z"⟩, 33) := ⟨⟨by decide +kernel, by decide +kernel⟩, List.mem_of_getElem? (i := 1159) (by decide +kernel), List.mem_of_getElem? (i := 1492) (by decide +kernel), List.mem_of_getElem? (i := 1493) (by decide +kernel)⟩
theorem lw_p67 : lw_okq (⟨"SafeBucketsModel", "keep", "()V"⟩, 33) := ⟨⟨by decide +kernel, by decide +kernel⟩, List.mem_of_getElem? (i := 1159) (by decide +kernel), List.mem_of_getElem? (i := 1496) (by decide +kernel), List.mem_of_getElem? (i := 1497) (by decide +kernel)⟩
theorem lw_p68 : lw_okq (⟨"SafeBucketsModel", "change", "(IIII)V"⟩, 33) := ⟨⟨by decide +kernel, by decide +kernel⟩, List.mem_of_getElem? (i := 1159) (by decide +kernel), List.mem_of_getElem? (i := 1500) (by decide +kernel), List.mem_of_getElem? (i := 1501) (by decide +kernel)⟩
theorem lw_p69 : lw_okq (⟨"SafeBucketsModel", "drifts", "(IIII)V"⟩, 33) := ⟨⟨by decide +kernel, by decide +kernel⟩, List.mem_of_getElem? (i := 1159) (by decide +kernel), List.mem_of_getElem? (i := 1504) (by decide +kernel), List.mem_of_getElem? (i := 1505) (by decide +kernel)⟩
theorem lw_p70 : lw_okq (⟨"SafeBucketsModel", "bucketOf", "(III)I"⟩, 33) := ⟨⟨by decide +kernel, by decide +kernel⟩, List.mem_of_getElem? (i := 1159) (by decide +kernel), List.mem_of_getElem? (i := 1508) (by decide +kernel), List.mem_of_getElem? (i := 1509) (by decide +kernel)⟩
theorem lw_p71 : lw_okq (⟨"SafeBucketsModel", "whyDrop", "(IIII)I"⟩, 33) := ⟨⟨by decide +kernel, by decide +kernel⟩, List.mem_of_getElem? (i := 1159) (by decide +kernel), List.mem_of_getElem? (i := 1516) (by decide +kernel), List.mem_of_getElem? (i := 1517) (by decide +kernel)⟩
theorem lw_p72 : lw_okq (⟨"SafeBucketsModel", "whyBuild", "(II)I"⟩, 33) := ⟨⟨by decide +kernel, by decide +kernel⟩, List.mem_of_getElem? (i := 1159) (by decide +kernel), List.mem_of_getElem? (i := 1528) (by decide +kernel), List.mem_of_getElem? (i := 1529) (by decide +kernel)⟩
theorem lw_p73 : lw_okq (⟨"SafeBucketsModel", "drawYear", "()V"⟩, 33) := ⟨⟨by decide +kernel, by decide +kernel⟩, List.mem_of_getElem? (i := 1159) (by decide +kernel), List.mem_of_getElem? (i := 1542) (by decide +kernel), List.mem_of_getElem? (i := 1543) (by decide +kernel)⟩
theorem lw_p74 : lw_okq (⟨"SafeBucketsModel", "draw", "(I)I"⟩, 33) := ⟨⟨by decide +kernel, by decide +kernel⟩, List.mem_of_getElem? (i := 1159) (by decide +kernel), List.mem_of_getElem? (i := 1546) (by decide +kernel), List.mem_of_getElem? (i := 1547) (by decide +kernel)⟩
theorem lw_p75 : lw_okq (⟨"SafeBucketsModel", "drawValue", "(I)I"⟩, 33) := ⟨⟨by decide +kernel, by decide +kernel⟩, List.mem_of_getElem? (i := 1159) (by decide +kernel), List.mem_of_getElem? (i := 1553) (by decide +kernel), List.mem_of_getElem? (i := 1554) (by decide +kernel)⟩
theorem lw_p76 : lw_okq (⟨"SafeBucketsModel", "rowsOfAll", "()I"⟩, 33) := ⟨⟨by decide +kernel, by decide +kernel⟩, List.mem_of_getElem? (i := 1159) (by decide +kernel), List.mem_of_getElem? (i := 1559) (by decide +kernel), List.mem_of_getElem? (i := 1560) (by decide +kernel)⟩
theorem lw_p77 : lw_okq (⟨"SafeBucketsModel", "isWhere", "(I)Z"⟩, 33) := ⟨⟨by decide +kernel, by decide +kernel⟩, List.mem_of_getElem? (i := 1159) (by decide +kernel), List.mem_of_getElem? (i := 1584) (by decide +kernel), List.mem_of_getElem? (i := 1585) (by decide +kernel)⟩
theorem lw_p78 : lw_okq (⟨"SafeBucketsModel", "whereBy", "(III)I"⟩, 33) := ⟨⟨by decide +kernel, by decide +kernel⟩, List.mem_of_getElem? (i := 1159) (by decide +kernel), List.mem_of_getElem? (i := 1588) (by decide +kernel), List.mem_of_getElem? (i := 1589) (by decide +kernel)⟩
theorem lw_p79 : lw_okq (⟨"SafeBucketsModel", "terms", "(I)I"⟩, 33) := ⟨⟨by decide +kernel, by decide +kernel⟩, List.mem_of_getElem? (i := 1159) (by decide +kernel), List.mem_of_getElem? (i := 1592) (by decide +kernel), List.mem_of_getElem? (i := 1593) (by decide +kernel)⟩
def lw_privs_5 : List (MethodName × Nat) := [(⟨"SafeBucketsModel", "whyAdd", "(IIII)I"⟩, 33), (⟨"SafeBucketsModel", "areThere", "(III)Z"⟩, 33), (⟨"SafeBucketsModel", "isRefused", "(IIII)Z"⟩, 33), (⟨"SafeBucketsModel", "keep", "()V"⟩, 33), (⟨"SafeBucketsModel", "change", "(IIII)V"⟩, 33), (⟨"SafeBucketsModel", "drifts", "(IIII)V"⟩, 33), (⟨"SafeBucketsModel", "bucketOf", "(III)I"⟩, 33), (⟨"SafeBucketsModel", "whyDrop", "(IIII)I"⟩, 33), (⟨"SafeBucketsModel", "whyBuild", "(II)I"⟩, 33), (⟨"SafeBucketsModel", "drawYear", "()V"⟩, 33), (⟨"SafeBucketsModel", "draw", "(I)I"⟩, 33), (⟨"SafeBucketsModel", "drawValue", "(I)I"⟩, 33), (⟨"SafeBucketsModel", "rowsOfAll", "()I"⟩, 33), (⟨"SafeBucketsModel", "isWhere", "(I)Z"⟩, 33), (⟨"SafeBucketsModel", "whereBy", "(III)I"⟩, 33), (⟨"SafeBucketsModel", "terms", "(I)I"⟩, 33)]
theorem lw_r5 : ∀ q ∈ lw_privs_5, lw_okq q := List.forall_mem_cons.mpr ⟨lw_p64, List.forall_mem_cons.mpr ⟨lw_p65, List.forall_mem_cons.mpr ⟨lw_p66, List.forall_mem_cons.mpr ⟨lw_p67, List.forall_mem_cons.mpr ⟨lw_p68, List.forall_mem_cons.mpr ⟨lw_p69, List.forall_mem_cons.mpr ⟨lw_p70, List.forall_mem_cons.mpr ⟨lw_p71, List.forall_mem_cons.mpr ⟨lw_p72, List.forall_mem_cons.mpr ⟨lw_p73, List.forall_mem_cons.mpr ⟨lw_p74, List.forall_mem_cons.mpr ⟨lw_p75, List.forall_mem_cons.mpr ⟨lw_p76, List.forall_mem_cons.mpr ⟨lw_p77, List.forall_mem_cons.mpr ⟨lw_p78, List.forall_mem_cons.mpr ⟨lw_p79, fun _ h => absurd h List.not_mem_nil⟩⟩⟩⟩⟩⟩⟩⟩⟩⟩⟩⟩⟩⟩⟩⟩
theorem lw_p80 : lw_okq (⟨"SafeBucketsModel", "unitAt", "(III)I"⟩, 33) := ⟨⟨by decide +kernel, by decide +kernel⟩, List.mem_of_getElem? (i := 1159) (by decide +kernel), List.mem_of_getElem? (i := 1596) (by decide +kernel), List.mem_of_getElem? (i := 1597) (by decide +kernel)⟩
theorem lw_p81 : lw_okq (⟨"SafeBucketsModel", "termBy", "(IIII)I"⟩, 33) := ⟨⟨by decide +kernel, by decide +kernel⟩, List.mem_of_getElem? (i := 1159) (by decide +kernel), List.mem_of_getElem? (i := 1600) (by decide +kernel), List.mem_of_getElem? (i := 1601) (by decide +kernel)⟩
theorem lw_p82 : lw_okq (⟨"SafeBucketsModel", "unitBy", "(IIII)I"⟩, 33) := ⟨⟨by decide +kernel, by decide +kernel⟩, List.mem_of_getElem? (i := 1159) (by decide +kernel), List.mem_of_getElem? (i := 1604) (by decide +kernel), List.mem_of_getElem? (i := 1605) (by decide +kernel)⟩
theorem lw_p83 : lw_okq (⟨"SafeBucketsModel", "isUnitOf", "(III)Z"⟩, 33) := ⟨⟨by decide +kernel, by decide +kernel⟩, List.mem_of_getElem? (i := 1159) (by decide +kernel), List.mem_of_getElem? (i := 1608) (by decide +kernel), List.mem_of_getElem? (i := 1609) (by decide +kernel)⟩
theorem lw_p84 : lw_okq (⟨"SafeBucketsModel", "begin", "()V"⟩, 33) := ⟨⟨by decide +kernel, by decide +kernel⟩, List.mem_of_getElem? (i := 1159) (by decide +kernel), List.mem_of_getElem? (i := 1612) (by decide +kernel), List.mem_of_getElem? (i := 1613) (by decide +kernel)⟩
theorem lw_p85 : lw_okq (⟨"SafeBucketsModel", "take", "(I)V"⟩, 33) := ⟨⟨by decide +kernel, by decide +kernel⟩, List.mem_of_getElem? (i := 1159) (by decide +kernel), List.mem_of_getElem? (i := 1616) (by decide +kernel), List.mem_of_getElem? (i := 1617) (by decide +kernel)⟩
theorem lw_p86 : lw_okq (⟨"SafeBucketsModel", "truth", "(IIZ)I"⟩, 33) := ⟨⟨by decide +kernel, by decide +kernel⟩, List.mem_of_getElem? (i := 1159) (by decide +kernel), List.mem_of_getElem? (i := 1620) (by decide +kernel), List.mem_of_getElem? (i := 1621) (by decide +kernel)⟩
theorem lw_p87 : lw_okq (⟨"SafeBucketsModel", "isOver", "()Z"⟩, 33) := ⟨⟨by decide +kernel, by decide +kernel⟩, List.mem_of_getElem? (i := 1159) (by decide +kernel), List.mem_of_getElem? (i := 1624) (by decide +kernel), List.mem_of_getElem? (i := 1625) (by decide +kernel)⟩
theorem lw_p88 : lw_okq (⟨"SafeBucketsModel", "holds", "(III)Z"⟩, 33) := ⟨⟨by decide +kernel, by decide +kernel⟩, List.mem_of_getElem? (i := 1159) (by decide +kernel), List.mem_of_getElem? (i := 1628) (by decide +kernel), List.mem_of_getElem? (i := 1629) (by decide +kernel)⟩
theorem lw_p89 : lw_okq (⟨"SafeBucketsModel", "isTermOf", "(IIII)Z"⟩, 33) := ⟨⟨by decide +kernel, by decide +kernel⟩, List.mem_of_getElem? (i := 1159) (by decide +kernel), List.mem_of_getElem? (i := 1632) (by decide +kernel), List.mem_of_getElem? (i := 1633) (by decide +kernel)⟩
theorem lw_p90 : lw_okq (⟨"SafeBucketsModel", "finish", "(J)J"⟩, 33) := ⟨⟨by decide +kernel, by decide +kernel⟩, List.mem_of_getElem? (i := 1159) (by decide +kernel), List.mem_of_getElem? (i := 1636) (by decide +kernel), List.mem_of_getElem? (i := 1637) (by decide +kernel)⟩
theorem lw_p91 : lw_okq (⟨"SafeBucketsModel", "degrees", "(IIII)J"⟩, 33) := ⟨⟨by decide +kernel, by decide +kernel⟩, List.mem_of_getElem? (i := 1159) (by decide +kernel), List.mem_of_getElem? (i := 1644) (by decide +kernel), List.mem_of_getElem? (i := 1645) (by decide +kernel)⟩
theorem lw_p92 : lw_okq (⟨"SafeBucketsModel", "sortCounts", "(III)V"⟩, 33) := ⟨⟨by decide +kernel, by decide +kernel⟩, List.mem_of_getElem? (i := 1159) (by decide +kernel), List.mem_of_getElem? (i := 1648) (by decide +kernel), List.mem_of_getElem? (i := 1649) (by decide +kernel)⟩
theorem lw_p93 : lw_okq (⟨"SafeBucketsModel", "countIn", "(III)I"⟩, 33) := ⟨⟨by decide +kernel, by decide +kernel⟩, List.mem_of_getElem? (i := 1159) (by decide +kernel), List.mem_of_getElem? (i := 1652) (by decide +kernel), List.mem_of_getElem? (i := 1653) (by decide +kernel)⟩
theorem lw_p94 : lw_okq (⟨"SafeBucketsModel", "joinBy", "(IIIIZ)J"⟩, 33) := ⟨⟨by decide +kernel, by decide +kernel⟩, List.mem_of_getElem? (i := 1159) (by decide +kernel), List.mem_of_getElem? (i := 1656) (by decide +kernel), List.mem_of_getElem? (i := 1657) (by decide +kernel)⟩
theorem lw_p95 : lw_okq (⟨"SafeBucketsModel", "joinTruth", "(IIII)J"⟩, 33) := ⟨⟨by decide +kernel, by decide +kernel⟩, List.mem_of_getElem? (i := 1159) (by decide +kernel), List.mem_of_getElem? (i := 1660) (by decide +kernel), List.mem_of_getElem? (i := 1661) (by decide +kernel)⟩
def lw_privs_6 : List (MethodName × Nat) := [(⟨"SafeBucketsModel", "unitAt", "(III)I"⟩, 33), (⟨"SafeBucketsModel", "termBy", "(IIII)I"⟩, 33), (⟨"SafeBucketsModel", "unitBy", "(IIII)I"⟩, 33), (⟨"SafeBucketsModel", "isUnitOf", "(III)Z"⟩, 33), (⟨"SafeBucketsModel", "begin", "()V"⟩, 33), (⟨"SafeBucketsModel", "take", "(I)V"⟩, 33), (⟨"SafeBucketsModel", "truth", "(IIZ)I"⟩, 33), (⟨"SafeBucketsModel", "isOver", "()Z"⟩, 33), (⟨"SafeBucketsModel", "holds", "(III)Z"⟩, 33), (⟨"SafeBucketsModel", "isTermOf", "(IIII)Z"⟩, 33), (⟨"SafeBucketsModel", "finish", "(J)J"⟩, 33), (⟨"SafeBucketsModel", "degrees", "(IIII)J"⟩, 33), (⟨"SafeBucketsModel", "sortCounts", "(III)V"⟩, 33), (⟨"SafeBucketsModel", "countIn", "(III)I"⟩, 33), (⟨"SafeBucketsModel", "joinBy", "(IIIIZ)J"⟩, 33), (⟨"SafeBucketsModel", "joinTruth", "(IIII)J"⟩, 33)]
theorem lw_r6 : ∀ q ∈ lw_privs_6, lw_okq q := List.forall_mem_cons.mpr ⟨lw_p80, List.forall_mem_cons.mpr ⟨lw_p81, List.forall_mem_cons.mpr ⟨lw_p82, List.forall_mem_cons.mpr ⟨lw_p83, List.forall_mem_cons.mpr ⟨lw_p84, List.forall_mem_cons.mpr ⟨lw_p85, List.forall_mem_cons.mpr ⟨lw_p86, List.forall_mem_cons.mpr ⟨lw_p87, List.forall_mem_cons.mpr ⟨lw_p88, List.forall_mem_cons.mpr ⟨lw_p89, List.forall_mem_cons.mpr ⟨lw_p90, List.forall_mem_cons.mpr ⟨lw_p91, List.forall_mem_cons.mpr ⟨lw_p92, List.forall_mem_cons.mpr ⟨lw_p93, List.forall_mem_cons.mpr ⟨lw_p94, List.forall_mem_cons.mpr ⟨lw_p95, fun _ h => absurd h List.not_mem_nil⟩⟩⟩⟩⟩⟩⟩⟩⟩⟩⟩⟩⟩⟩⟩⟩
theorem lw_p96 : lw_okq (⟨"SafeBucketsModel", "greatestOf", "(II)J"⟩, 33) := ⟨⟨by decide +kernel, by decide +kernel⟩, List.mem_of_getElem? (i := 1159) (by decide +kernel), List.mem_of_getElem? (i := 1668) (by decide +kernel), List.mem_of_getElem? (i := 1669) (by decide +kernel)⟩
theorem lw_p97 : lw_okq (⟨"SafeBucketsModel", "chainTruth", "()J"⟩, 33) := ⟨⟨by decide +kernel, by decide +kernel⟩, List.mem_of_getElem? (i := 1159) (by decide +kernel), List.mem_of_getElem? (i := 1672) (by decide +kernel), List.mem_of_getElem? (i := 1673) (by decide +kernel)⟩
theorem lw_p98 : lw_okq (⟨"SafeBucketsModel", "gapIfBuilt", "(III)I"⟩, 33) := ⟨⟨by decide +kernel, by decide +kernel⟩, List.mem_of_getElem? (i := 1159) (by decide +kernel), List.mem_of_getElem? (i := 1680) (by decide +kernel), List.mem_of_getElem? (i := 1681) (by decide +kernel)⟩
theorem lw_p99 : lw_okq (⟨"SafeBucketsModel", "longest", "()I"⟩, 33) := ⟨⟨by decide +kernel, by decide +kernel⟩, List.mem_of_getElem? (i := 1159) (by decide +kernel), List.mem_of_getElem? (i := 1701) (by decide +kernel), List.mem_of_getElem? (i := 1702) (by decide +kernel)⟩
theorem lw_p100 : lw_okq (⟨"SafeBucketsModel", "mostDrifted", "()I"⟩, 33) := ⟨⟨by decide +kernel, by decide +kernel⟩, List.mem_of_getElem? (i := 1159) (by decide +kernel), List.mem_of_getElem? (i := 1705) (by decide +kernel), List.mem_of_getElem? (i := 1706) (by decide +kernel)⟩
theorem lw_p101 : lw_okq (⟨"SafeBucketsModel", "greatestTotal", "()I"⟩, 33) := ⟨⟨by decide +kernel, by decide +kernel⟩, List.mem_of_getElem? (i := 1159) (by decide +kernel), List.mem_of_getElem? (i := 1709) (by decide +kernel), List.mem_of_getElem? (i := 1710) (by decide +kernel)⟩
theorem lw_p102 : lw_okq (⟨"SafeBucketsModel", "mostAlike", "()I"⟩, 33) := ⟨⟨by decide +kernel, by decide +kernel⟩, List.mem_of_getElem? (i := 1159) (by decide +kernel), List.mem_of_getElem? (i := 1713) (by decide +kernel), List.mem_of_getElem? (i := 1714) (by decide +kernel)⟩
theorem lw_p103 : lw_okq (⟨"SafeBucketsModel", "commonest", "()I"⟩, 33) := ⟨⟨by decide +kernel, by decide +kernel⟩, List.mem_of_getElem? (i := 1159) (by decide +kernel), List.mem_of_getElem? (i := 1717) (by decide +kernel), List.mem_of_getElem? (i := 1718) (by decide +kernel)⟩
def lw_privs_7 : List (MethodName × Nat) := [(⟨"SafeBucketsModel", "greatestOf", "(II)J"⟩, 33), (⟨"SafeBucketsModel", "chainTruth", "()J"⟩, 33), (⟨"SafeBucketsModel", "gapIfBuilt", "(III)I"⟩, 33), (⟨"SafeBucketsModel", "longest", "()I"⟩, 33), (⟨"SafeBucketsModel", "mostDrifted", "()I"⟩, 33), (⟨"SafeBucketsModel", "greatestTotal", "()I"⟩, 33), (⟨"SafeBucketsModel", "mostAlike", "()I"⟩, 33), (⟨"SafeBucketsModel", "commonest", "()I"⟩, 33)]
theorem lw_r7 : ∀ q ∈ lw_privs_7, lw_okq q := List.forall_mem_cons.mpr ⟨lw_p96, List.forall_mem_cons.mpr ⟨lw_p97, List.forall_mem_cons.mpr ⟨lw_p98, List.forall_mem_cons.mpr ⟨lw_p99, List.forall_mem_cons.mpr ⟨lw_p100, List.forall_mem_cons.mpr ⟨lw_p101, List.forall_mem_cons.mpr ⟨lw_p102, List.forall_mem_cons.mpr ⟨lw_p103, fun _ h => absurd h List.not_mem_nil⟩⟩⟩⟩⟩⟩⟩⟩
def lw_privs : List (MethodName × Nat) := lw_privs_1 ++ (lw_privs_2 ++ (lw_privs_3 ++ (lw_privs_4 ++ (lw_privs_5 ++ (lw_privs_6 ++ (lw_privs_7))))))
def lw_tbl : List Cond := k2_sels lw_privs ++ tables_1
theorem lw_privs_ok : ∀ q ∈ lw_privs, lw_okq q := by
  show ∀ q ∈ lw_privs_1 ++ (lw_privs_2 ++ (lw_privs_3 ++ (lw_privs_4 ++ (lw_privs_5 ++ (lw_privs_6 ++ (lw_privs_7)))))), lw_okq q
  exact List.forall_mem_append.mpr ⟨lw_r1, List.forall_mem_append.mpr ⟨lw_r2, List.forall_mem_append.mpr ⟨lw_r3, List.forall_mem_append.mpr ⟨lw_r4, List.forall_mem_append.mpr ⟨lw_r5, List.forall_mem_append.mpr ⟨lw_r6, lw_r7⟩⟩⟩⟩⟩⟩
def RX0 : String := "SafeBuckets$Book"
def TX0 : u_T := fun k => match k with
  | 0 => ("SafeBuckets$Book", "sheets", "[LSafeBuckets$Sheet;", true)
  | 1 => ("SafeBuckets$Book", "diary", "LSafeBuckets$Diary;", true)
  | 2 => ("SafeBuckets$Book", "tables", "I", false)
  | 3 => ("SafeBuckets$Book", "buckets", "I", false)
  | 4 => ("SafeBuckets$Book", "drift", "I", false)
  | _ => ("SafeBuckets$Book", "budget", "I", false)
def tyX0 : Nat → FieldType := fun k => match k with
  | 0 => .array (.object "SafeBuckets$Sheet")
  | 1 => .object "SafeBuckets$Diary"
  | 2 => .int
  | 3 => .int
  | 4 => .int
  | _ => .int
abbrev wsX00 : List Cond := u_ws RX0 TX0 6
theorem nmX0 : ∀ a, a < 6 → ∀ b, b < 6 → a ≠ b → (TX0 a).2.1 ≠ (TX0 b).2.1 := by decide +kernel
theorem tyX0_ok : ∀ k, k < 6 → parseFieldDescriptor (TX0 k).2.2.1 = some (tyX0 k) := by decide +kernel
abbrev cX0_init : ByteArray := prog_2_method_1_code
def yX0_init : MethodName := ⟨RX0, "<init>", "()V"⟩
abbrev cX0_tell : ByteArray := prog_2_method_2_code
def yX0_tell : MethodName := ⟨RX0, "tell", "(LSafeBuckets$BookReader;LSafeBuckets$Layout;)V"⟩
abbrev cX0_copyFrom : ByteArray := prog_2_method_3_code
def yX0_copyFrom : MethodName := ⟨RX0, "copyFrom", "(LSafeBuckets$Book;)V"⟩
abbrev cX0_changeRows : ByteArray := prog_2_method_4_code
def yX0_changeRows : MethodName := ⟨RX0, "changeRows", "(LSafeBuckets$Sheet;IIILSafeBuckets$Layout;)V"⟩
abbrev cX0_allRows : ByteArray := prog_2_method_5_code
def yX0_allRows : MethodName := ⟨RX0, "allRows", "()I"⟩
abbrev cX0_tableWithMostRows : ByteArray := prog_2_method_6_code
def yX0_tableWithMostRows : MethodName := ⟨RX0, "tableWithMostRows", "()I"⟩
abbrev cX0_columnDriftedMost : ByteArray := prog_2_method_7_code
def yX0_columnDriftedMost : MethodName := ⟨RX0, "columnDriftedMost", "()I"⟩
abbrev cX0_greatestTotal : ByteArray := prog_2_method_8_code
def yX0_greatestTotal : MethodName := ⟨RX0, "greatestTotal", "()I"⟩
abbrev cX0_mostAlike : ByteArray := prog_2_method_9_code
def yX0_mostAlike : MethodName := ⟨RX0, "mostAlike", "()I"⟩
abbrev cX0_valueSeenMost : ByteArray := prog_2_method_10_code
def yX0_valueSeenMost : MethodName := ⟨RX0, "valueSeenMost", "()I"⟩
def RX1 : String := "SafeBuckets$BookReader"
def TX1 : u_T := fun k => match k with
  | 0 => ("SafeBuckets$BookReader", "items", "[I", true)
  | 1 => ("SafeBuckets$BookReader", "values", "[I", true)
  | 2 => ("SafeBuckets$BookReader", "rowItems", "[I", true)
  | 3 => ("SafeBuckets$BookReader", "ruled", "Z", false)
  | 4 => ("SafeBuckets$BookReader", "tables", "I", false)
  | _ => ("SafeBuckets$BookReader", "rowClauses", "I", false)
def tyX1 : Nat → FieldType := fun k => match k with
  | 0 => .array .int
  | 1 => .array .int
  | 2 => .array .int
  | 3 => .boolean
  | 4 => .int
  | _ => .int
abbrev wsX10 : List Cond := u_ws RX1 TX1 6
theorem nmX1 : ∀ a, a < 6 → ∀ b, b < 6 → a ≠ b → (TX1 a).2.1 ≠ (TX1 b).2.1 := by decide +kernel
theorem tyX1_ok : ∀ k, k < 6 → parseFieldDescriptor (TX1 k).2.2.1 = some (tyX1 k) := by decide +kernel
abbrev cX1_init : ByteArray := prog_3_method_1_code
def yX1_init : MethodName := ⟨RX1, "<init>", "()V"⟩
abbrev cX1_read : ByteArray := prog_3_method_2_code
def yX1_read : MethodName := ⟨RX1, "read", "(LSafeBuckets$Tape;)I"⟩
abbrev cX1_readClause : ByteArray := prog_3_method_3_code
def yX1_readClause : MethodName := ⟨RX1, "readClause", "(LSafeBuckets$Tape;)Z"⟩
abbrev cX1_readItems : ByteArray := prog_3_method_4_code
def yX1_readItems : MethodName := ⟨RX1, "readItems", "(LSafeBuckets$Tape;II)Z"⟩
abbrev cX1_resetItems : ByteArray := prog_3_method_5_code
def yX1_resetItems : MethodName := ⟨RX1, "resetItems", "(II)V"⟩
abbrev cX1_itemOf : ByteArray := prog_3_method_6_code
def yX1_itemOf : MethodName := ⟨RX1, "itemOf", "(III)I"⟩
abbrev cX1_fits : ByteArray := prog_3_method_7_code
def yX1_fits : MethodName := ⟨RX1, "fits", "()Z"⟩
abbrev cX1_rowItem : ByteArray := prog_3_method_8_code
def yX1_rowItem : MethodName := ⟨RX1, "rowItem", "(II)I"⟩
def RX2 : String := "SafeBuckets$Bounds"
def TX2 : u_T := fun k => match k with
  | 0 => ("SafeBuckets$Bounds", "lower", "I", false)
  | 1 => ("SafeBuckets$Bounds", "upper", "I", false)
  | 2 => ("SafeBuckets$Bounds", "estimate", "I", false)
  | 3 => ("SafeBuckets$Bounds", "unitLower", "I", false)
  | 4 => ("SafeBuckets$Bounds", "unitUpper", "I", false)
  | 5 => ("SafeBuckets$Bounds", "unitEstimate", "I", false)
  | 6 => ("SafeBuckets$Bounds", "termLower", "I", false)
  | 7 => ("SafeBuckets$Bounds", "termUpper", "I", false)
  | _ => ("SafeBuckets$Bounds", "termEstimate", "I", false)
def tyX2 : Nat → FieldType := fun k => match k with
  | 0 => .int
  | 1 => .int
  | 2 => .int
  | 3 => .int
  | 4 => .int
  | 5 => .int
  | 6 => .int
  | 7 => .int
  | _ => .int
abbrev wsX20 : List Cond := u_ws RX2 TX2 9
theorem nmX2 : ∀ a, a < 9 → ∀ b, b < 9 → a ≠ b → (TX2 a).2.1 ≠ (TX2 b).2.1 := by decide +kernel
theorem tyX2_ok : ∀ k, k < 9 → parseFieldDescriptor (TX2 k).2.2.1 = some (tyX2 k) := by decide +kernel
abbrev cX2_init : ByteArray := prog_4_method_1_code
def yX2_init : MethodName := ⟨RX2, "<init>", "()V"⟩
abbrev cX2_spread : ByteArray := prog_4_method_2_code
def yX2_spread : MethodName := ⟨RX2, "spread", "(LSafeBuckets$Where;LSafeBuckets$Sheet;LSafeBuckets$Lane;LSafeBuckets$Lane;)I"⟩
abbrev cX2_find : ByteArray := prog_4_method_3_code
def yX2_find : MethodName := ⟨RX2, "find", "(LSafeBuckets$Where;LSafeBuckets$Sheet;LSafeBuckets$Lane;LSafeBuckets$Lane;)V"⟩
abbrev cX2_findUnit : ByteArray := prog_4_method_4_code
def yX2_findUnit : MethodName := ⟨RX2, "findUnit", "(LSafeBuckets$Where;ILSafeBuckets$Lane;)V"⟩
abbrev cX2_heldIn : ByteArray := prog_4_method_5_code
def yX2_heldIn : MethodName := ⟨RX2, "heldIn", "(LSafeBuckets$Where;ILSafeBuckets$Lane;I)I"⟩
abbrev cX2_addBucket : ByteArray := prog_4_method_6_code
def yX2_addBucket : MethodName := ⟨RX2, "addBucket", "(LSafeBuckets$Lane;II)V"⟩
def RX3 : String := "SafeBuckets$Diary"
def TX3 : u_T := fun k => match k with
  | 0 => ("SafeBuckets$Diary", "entries", "[I", true)
  | _ => ("SafeBuckets$Diary", "written", "I", false)
def tyX3 : Nat → FieldType := fun k => match k with
  | 0 => .array .int
  | _ => .int
abbrev wsX30 : List Cond := u_ws RX3 TX3 2
theorem nmX3 : ∀ a, a < 2 → ∀ b, b < 2 → a ≠ b → (TX3 a).2.1 ≠ (TX3 b).2.1 := by decide +kernel
theorem tyX3_ok : ∀ k, k < 2 → parseFieldDescriptor (TX3 k).2.2.1 = some (tyX3 k) := by decide +kernel
abbrev cX3_init : ByteArray := prog_5_method_1_code
def yX3_init : MethodName := ⟨RX3, "<init>", "()V"⟩
abbrev cX3_length : ByteArray := prog_5_method_2_code
def yX3_length : MethodName := ⟨RX3, "length", "()I"⟩
abbrev cX3_note : ByteArray := prog_5_method_3_code
def yX3_note : MethodName := ⟨RX3, "note", "(III)V"⟩
abbrev cX3_eraseLatest : ByteArray := prog_5_method_4_code
def yX3_eraseLatest : MethodName := ⟨RX3, "eraseLatest", "()V"⟩
abbrev cX3_read : ByteArray := prog_5_method_5_code
def yX3_read : MethodName := ⟨RX3, "read", "(II)I"⟩
abbrev cX3_copyFrom : ByteArray := prog_5_method_6_code
def yX3_copyFrom : MethodName := ⟨RX3, "copyFrom", "(LSafeBuckets$Diary;)V"⟩
def RX4 : String := "SafeBuckets$Lane"
def TX4 : u_T := fun k => match k with
  | 0 => ("SafeBuckets$Lane", "counts", "[I", true)
  | 1 => ("SafeBuckets$Lane", "state", "[I", true)
  | 2 => ("SafeBuckets$Lane", "values", "I", false)
  | _ => ("SafeBuckets$Lane", "missing", "I", false)
def tyX4 : Nat → FieldType := fun k => match k with
  | 0 => .array .int
  | 1 => .array .int
  | 2 => .int
  | _ => .int
abbrev wsX40 : List Cond := u_ws RX4 TX4 4
theorem nmX4 : ∀ a, a < 4 → ∀ b, b < 4 → a ≠ b → (TX4 a).2.1 ≠ (TX4 b).2.1 := by decide +kernel
theorem tyX4_ok : ∀ k, k < 4 → parseFieldDescriptor (TX4 k).2.2.1 = some (tyX4 k) := by decide +kernel
abbrev cX4_init : ByteArray := prog_6_method_1_code
def yX4_init : MethodName := ⟨RX4, "<init>", "()V"⟩
abbrev cX4_size : ByteArray := prog_6_method_2_code
def yX4_size : MethodName := ⟨RX4, "size", "()I"⟩
abbrev cX4_drift : ByteArray := prog_6_method_3_code
def yX4_drift : MethodName := ⟨RX4, "drift", "()I"⟩
abbrev cX4_firstOf : ByteArray := prog_6_method_4_code
def yX4_firstOf : MethodName := ⟨RX4, "firstOf", "(I)I"⟩
abbrev cX4_lastOf : ByteArray := prog_6_method_5_code
def yX4_lastOf : MethodName := ⟨RX4, "lastOf", "(I)I"⟩
abbrev cX4_widthOf : ByteArray := prog_6_method_6_code
def yX4_widthOf : MethodName := ⟨RX4, "widthOf", "(I)I"⟩
abbrev cX4_totalOf : ByteArray := prog_6_method_7_code
def yX4_totalOf : MethodName := ⟨RX4, "totalOf", "(I)I"⟩
abbrev cX4_greatestOf : ByteArray := prog_6_method_8_code
def yX4_greatestOf : MethodName := ⟨RX4, "greatestOf", "(I)I"⟩
abbrev cX4_clear : ByteArray := prog_6_method_9_code
def yX4_clear : MethodName := ⟨RX4, "clear", "(I)V"⟩
abbrev cX4_copyFrom : ByteArray := prog_6_method_10_code
def yX4_copyFrom : MethodName := ⟨RX4, "copyFrom", "(LSafeBuckets$Lane;)V"⟩
abbrev cX4_changeCount : ByteArray := prog_6_method_11_code
def yX4_changeCount : MethodName := ⟨RX4, "changeCount", "(II)V"⟩
abbrev cX4_layAnew : ByteArray := prog_6_method_12_code
def yX4_layAnew : MethodName := ⟨RX4, "layAnew", "(LSafeBuckets$Layout;I)V"⟩
abbrev cX4_weigh : ByteArray := prog_6_method_13_code
def yX4_weigh : MethodName := ⟨RX4, "weigh", "(I)V"⟩
abbrev cX4_follow : ByteArray := prog_6_method_14_code
def yX4_follow : MethodName := ⟨RX4, "follow", "(II)V"⟩
abbrev cX4_bucketOf : ByteArray := prog_6_method_15_code
def yX4_bucketOf : MethodName := ⟨RX4, "bucketOf", "(I)I"⟩
abbrev cX4_greatestOfAll : ByteArray := prog_6_method_16_code
def yX4_greatestOfAll : MethodName := ⟨RX4, "greatestOfAll", "()I"⟩
abbrev cX4_countAt : ByteArray := prog_6_method_17_code
def yX4_countAt : MethodName := ⟨RX4, "countAt", "(I)I"⟩
abbrev cX4_joinTruth : ByteArray := prog_6_method_18_code
def yX4_joinTruth : MethodName := ⟨RX4, "joinTruth", "(LSafeBuckets$Lane;I)J"⟩
abbrev cX4_joinUpper : ByteArray := prog_6_method_19_code
def yX4_joinUpper : MethodName := ⟨RX4, "joinUpper", "(LSafeBuckets$Lane;)J"⟩
abbrev cX4_joinEstimate : ByteArray := prog_6_method_20_code
def yX4_joinEstimate : MethodName := ⟨RX4, "joinEstimate", "(LSafeBuckets$Lane;)J"⟩
abbrev cX4_commonValues : ByteArray := prog_6_method_21_code
def yX4_commonValues : MethodName := ⟨RX4, "commonValues", "(ILSafeBuckets$Lane;I)I"⟩
abbrev cX4_joinByDegrees : ByteArray := prog_6_method_22_code
def yX4_joinByDegrees : MethodName := ⟨RX4, "joinByDegrees", "(LSafeBuckets$Lane;)J"⟩
abbrev cX4_richestOutside : ByteArray := prog_6_method_23_code
def yX4_richestOutside : MethodName := ⟨RX4, "richestOutside", "(I)I"⟩
def RX5 : String := "SafeBuckets$Layout"
def TX5 : u_T := fun k => match k with
  | 0 => ("SafeBuckets$Layout", "errors", "[J", true)
  | 1 => ("SafeBuckets$Layout", "least", "[J", true)
  | 2 => ("SafeBuckets$Layout", "second", "[I", true)
  | 3 => ("SafeBuckets$Layout", "values", "I", false)
  | 4 => ("SafeBuckets$Layout", "tries", "I", false)
  | _ => ("SafeBuckets$Layout", "plain", "I", false)
def tyX5 : Nat → FieldType := fun k => match k with
  | 0 => .array .long
  | 1 => .array .long
  | 2 => .array .int
  | 3 => .int
  | 4 => .int
  | _ => .int
abbrev wsX50 : List Cond := u_ws RX5 TX5 6
theorem nmX5 : ∀ a, a < 6 → ∀ b, b < 6 → a ≠ b → (TX5 a).2.1 ≠ (TX5 b).2.1 := by decide +kernel
theorem tyX5_ok : ∀ k, k < 6 → parseFieldDescriptor (TX5 k).2.2.1 = some (tyX5 k) := by decide +kernel
abbrev cX5_init : ByteArray := prog_7_method_1_code
def yX5_init : MethodName := ⟨RX5, "<init>", "()V"⟩
abbrev cX5_solve : ByteArray := prog_7_method_2_code
def yX5_solve : MethodName := ⟨RX5, "solve", "(LSafeBuckets$Lane;I)V"⟩
abbrev cX5_findErrors : ByteArray := prog_7_method_3_code
def yX5_findErrors : MethodName := ⟨RX5, "findErrors", "(LSafeBuckets$Lane;)V"⟩
abbrev cX5_seek : ByteArray := prog_7_method_4_code
def yX5_seek : MethodName := ⟨RX5, "seek", "(II)V"⟩
abbrev cX5_leastBy : ByteArray := prog_7_method_5_code
def yX5_leastBy : MethodName := ⟨RX5, "leastBy", "(I)J"⟩
abbrev cX5_borderOf : ByteArray := prog_7_method_6_code
def yX5_borderOf : MethodName := ⟨RX5, "borderOf", "(II)I"⟩
abbrev cX5_worstOf : ByteArray := prog_7_method_7_code
def yX5_worstOf : MethodName := ⟨RX5, "worstOf", "(LSafeBuckets$Lane;)I"⟩
def RX6 : String := "SafeBuckets$Past"
def TX6 : u_T := fun k => match k with
  | 0 => ("SafeBuckets$Past", "pages", "[I", true)
  | 1 => ("SafeBuckets$Past", "size", "I", false)
  | _ => ("SafeBuckets$Past", "latest", "I", false)
def tyX6 : Nat → FieldType := fun k => match k with
  | 0 => .array .int
  | 1 => .int
  | _ => .int
abbrev wsX60 : List Cond := u_ws RX6 TX6 3
theorem nmX6 : ∀ a, a < 3 → ∀ b, b < 3 → a ≠ b → (TX6 a).2.1 ≠ (TX6 b).2.1 := by decide +kernel
theorem tyX6_ok : ∀ k, k < 3 → parseFieldDescriptor (TX6 k).2.2.1 = some (tyX6 k) := by decide +kernel
abbrev cX6_init : ByteArray := prog_8_method_1_code
def yX6_init : MethodName := ⟨RX6, "<init>", "()V"⟩
abbrev cX6_forget : ByteArray := prog_8_method_2_code
def yX6_forget : MethodName := ⟨RX6, "forget", "()V"⟩
abbrev cX6_open : ByteArray := prog_8_method_3_code
def yX6_open : MethodName := ⟨RX6, "open", "(LSafeBuckets$Book;I)V"⟩
abbrev cX6_noteRows : ByteArray := prog_8_method_4_code
def yX6_noteRows : MethodName := ⟨RX6, "noteRows", "(III)V"⟩
abbrev cX6_undoLatest : ByteArray := prog_8_method_5_code
def yX6_undoLatest : MethodName := ⟨RX6, "undoLatest", "(LSafeBuckets$Book;)V"⟩
abbrev cX6_restore : ByteArray := prog_8_method_6_code
def yX6_restore : MethodName := ⟨RX6, "restore", "(LSafeBuckets$Sheet;)V"⟩
def RX7 : String := "SafeBuckets$Sheet"
def TX7 : u_T := fun k => match k with
  | 0 => ("SafeBuckets$Sheet", "cells", "[I", true)
  | 1 => ("SafeBuckets$Sheet", "lanes", "[LSafeBuckets$Lane;", true)
  | 2 => ("SafeBuckets$Sheet", "values", "I", false)
  | _ => ("SafeBuckets$Sheet", "rowCount", "I", false)
def tyX7 : Nat → FieldType := fun k => match k with
  | 0 => .array .int
  | 1 => .array (.object "SafeBuckets$Lane")
  | 2 => .int
  | _ => .int
abbrev wsX70 : List Cond := u_ws RX7 TX7 4
theorem nmX7 : ∀ a, a < 4 → ∀ b, b < 4 → a ≠ b → (TX7 a).2.1 ≠ (TX7 b).2.1 := by decide +kernel
theorem tyX7_ok : ∀ k, k < 4 → parseFieldDescriptor (TX7 k).2.2.1 = some (tyX7 k) := by decide +kernel
abbrev cX7_init : ByteArray := prog_9_method_1_code
def yX7_init : MethodName := ⟨RX7, "<init>", "()V"⟩
abbrev cX7_cellOf : ByteArray := prog_9_method_2_code
def yX7_cellOf : MethodName := ⟨RX7, "cellOf", "(II)I"⟩
abbrev cX7_hasCell : ByteArray := prog_9_method_3_code
def yX7_hasCell : MethodName := ⟨RX7, "hasCell", "(II)Z"⟩
abbrev cX7_alike : ByteArray := prog_9_method_4_code
def yX7_alike : MethodName := ⟨RX7, "alike", "(II)I"⟩
abbrev cX7_clear : ByteArray := prog_9_method_5_code
def yX7_clear : MethodName := ⟨RX7, "clear", "(I)V"⟩
abbrev cX7_copyFrom : ByteArray := prog_9_method_6_code
def yX7_copyFrom : MethodName := ⟨RX7, "copyFrom", "(LSafeBuckets$Sheet;)V"⟩
abbrev cX7_changeRows : ByteArray := prog_9_method_7_code
def yX7_changeRows : MethodName := ⟨RX7, "changeRows", "(III)V"⟩
abbrev cX7_rowsHeldBy : ByteArray := prog_9_method_8_code
def yX7_rowsHeldBy : MethodName := ⟨RX7, "rowsHeldBy", "(LSafeBuckets$Where;I)J"⟩
abbrev cX7_chainTruth : ByteArray := prog_9_method_9_code
def yX7_chainTruth : MethodName := ⟨RX7, "chainTruth", "(LSafeBuckets$Lane;LSafeBuckets$Lane;I)J"⟩
abbrev cX7_chainUpper : ByteArray := prog_9_method_10_code
def yX7_chainUpper : MethodName := ⟨RX7, "chainUpper", "(LSafeBuckets$Lane;LSafeBuckets$Lane;)J"⟩
abbrev cX7_mostAlike : ByteArray := prog_9_method_11_code
def yX7_mostAlike : MethodName := ⟨RX7, "mostAlike", "()I"⟩
def RX8 : String := "SafeBuckets$Tape"
def TX8 : u_T := fun k => match k with
  | 0 => ("SafeBuckets$Tape", "bytes", "[I", true)
  | 1 => ("SafeBuckets$Tape", "length", "I", false)
  | 2 => ("SafeBuckets$Tape", "at", "I", false)
  | _ => ("SafeBuckets$Tape", "wrong", "I", false)
def tyX8 : Nat → FieldType := fun k => match k with
  | 0 => .array .int
  | 1 => .int
  | 2 => .int
  | _ => .int
abbrev wsX80 : List Cond := u_ws RX8 TX8 4
theorem nmX8 : ∀ a, a < 4 → ∀ b, b < 4 → a ≠ b → (TX8 a).2.1 ≠ (TX8 b).2.1 := by decide +kernel
theorem tyX8_ok : ∀ k, k < 4 → parseFieldDescriptor (TX8 k).2.2.1 = some (tyX8 k) := by decide +kernel
abbrev cX8_init : ByteArray := prog_10_method_1_code
def yX8_init : MethodName := ⟨RX8, "<init>", "()V"⟩
abbrev cX8_bytesIn : ByteArray := prog_10_method_2_code
def yX8_bytesIn : MethodName := ⟨RX8, "bytesIn", "(I)I"⟩
abbrev cX8_append : ByteArray := prog_10_method_3_code
def yX8_append : MethodName := ⟨RX8, "append", "(I)V"⟩
abbrev cX8_rewind : ByteArray := prog_10_method_4_code
def yX8_rewind : MethodName := ⟨RX8, "rewind", "()V"⟩
abbrev cX8_peek : ByteArray := prog_10_method_5_code
def yX8_peek : MethodName := ⟨RX8, "peek", "()I"⟩
abbrev cX8_isDigitNext : ByteArray := prog_10_method_6_code
def yX8_isDigitNext : MethodName := ⟨RX8, "isDigitNext", "()Z"⟩
abbrev cX8_fail : ByteArray := prog_10_method_7_code
def yX8_fail : MethodName := ⟨RX8, "fail", "(I)Z"⟩
abbrev cX8_readNumber : ByteArray := prog_10_method_8_code
def yX8_readNumber : MethodName := ⟨RX8, "readNumber", "(III)I"⟩
def RX9 : String := "SafeBuckets$Where"
def TX9 : u_T := fun k => match k with
  | 0 => ("SafeBuckets$Where", "terms", "[I", true)
  | 1 => ("SafeBuckets$Where", "columns", "[I", true)
  | 2 => ("SafeBuckets$Where", "signs", "[I", true)
  | 3 => ("SafeBuckets$Where", "numbers", "[I", true)
  | _ => ("SafeBuckets$Where", "size", "I", false)
def tyX9 : Nat → FieldType := fun k => match k with
  | 0 => .array .int
  | 1 => .array .int
  | 2 => .array .int
  | 3 => .array .int
  | _ => .int
abbrev wsX90 : List Cond := u_ws RX9 TX9 5
theorem nmX9 : ∀ a, a < 5 → ∀ b, b < 5 → a ≠ b → (TX9 a).2.1 ≠ (TX9 b).2.1 := by decide +kernel
theorem tyX9_ok : ∀ k, k < 5 → parseFieldDescriptor (TX9 k).2.2.1 = some (tyX9 k) := by decide +kernel
abbrev cX9_init : ByteArray := prog_11_method_1_code
def yX9_init : MethodName := ⟨RX9, "<init>", "()V"⟩
abbrev cX9_read : ByteArray := prog_11_method_2_code
def yX9_read : MethodName := ⟨RX9, "read", "(LSafeBuckets$Tape;)I"⟩
abbrev cX9_readUnit : ByteArray := prog_11_method_3_code
def yX9_readUnit : MethodName := ⟨RX9, "readUnit", "(LSafeBuckets$Tape;I)Z"⟩
abbrev cX9_unitHolds : ByteArray := prog_11_method_4_code
def yX9_unitHolds : MethodName := ⟨RX9, "unitHolds", "(II)Z"⟩
abbrev cX9_holds : ByteArray := prog_11_method_5_code
def yX9_holds : MethodName := ⟨RX9, "holds", "(II)Z"⟩
abbrev cX9_beginsTerm : ByteArray := prog_11_method_6_code
def yX9_beginsTerm : MethodName := ⟨RX9, "beginsTerm", "(I)Z"⟩
def RX10 : String := "SafeBuckets"
def TX10 : u_T := fun k => match k with
  | 0 => ("SafeBuckets", "tape", "LSafeBuckets$Tape;", true)
  | 1 => ("SafeBuckets", "reader", "LSafeBuckets$BookReader;", true)
  | 2 => ("SafeBuckets", "book", "LSafeBuckets$Book;", true)
  | 3 => ("SafeBuckets", "wheres", "[LSafeBuckets$Where;", true)
  | 4 => ("SafeBuckets", "refused", "[I", true)
  | 5 => ("SafeBuckets", "past", "LSafeBuckets$Past;", true)
  | 6 => ("SafeBuckets", "kept", "LSafeBuckets$Book;", true)
  | 7 => ("SafeBuckets", "trail", "[I", true)
  | 8 => ("SafeBuckets", "layout", "LSafeBuckets$Layout;", true)
  | 9 => ("SafeBuckets", "bounds", "LSafeBuckets$Bounds;", true)
  | 10 => ("SafeBuckets", "ifBuilt", "LSafeBuckets$Lane;", true)
  | 11 => ("SafeBuckets", "whereCount", "I", false)
  | 12 => ("SafeBuckets", "trailLength", "I", false)
  | _ => ("SafeBuckets", "drawn", "J", false)
def tyX10 : Nat → FieldType := fun k => match k with
  | 0 => .object "SafeBuckets$Tape"
  | 1 => .object "SafeBuckets$BookReader"
  | 2 => .object "SafeBuckets$Book"
  | 3 => .array (.object "SafeBuckets$Where")
  | 4 => .array .int
  | 5 => .object "SafeBuckets$Past"
  | 6 => .object "SafeBuckets$Book"
  | 7 => .array .int
  | 8 => .object "SafeBuckets$Layout"
  | 9 => .object "SafeBuckets$Bounds"
  | 10 => .object "SafeBuckets$Lane"
  | 11 => .int
  | 12 => .int
  | _ => .long
abbrev wsX100 : List Cond := u_ws RX10 TX10 14
theorem nmX10 : ∀ a, a < 14 → ∀ b, b < 14 → a ≠ b → (TX10 a).2.1 ≠ (TX10 b).2.1 := by decide +kernel
theorem tyX10_ok : ∀ k, k < 14 → parseFieldDescriptor (TX10 k).2.2.1 = some (tyX10 k) := by decide +kernel
abbrev cX10_init : ByteArray := prog_1_method_1_code
def yX10_init : MethodName := ⟨RX10, "<init>", "()V"⟩
abbrev cX10_feed : ByteArray := prog_1_method_2_code
def yX10_feed : MethodName := ⟨RX10, "feed", "(IIIII)I"⟩
abbrev cX10_end : ByteArray := prog_1_method_3_code
def yX10_end : MethodName := ⟨RX10, "end", "(I)Z"⟩
abbrev cX10_fault : ByteArray := prog_1_method_4_code
def yX10_fault : MethodName := ⟨RX10, "fault", "(I)I"⟩
abbrev cX10_text : ByteArray := prog_1_method_5_code
def yX10_text : MethodName := ⟨RX10, "text", "(I)I"⟩
abbrev cX10_tellBook : ByteArray := prog_1_method_6_code
def yX10_tellBook : MethodName := ⟨RX10, "tellBook", "()I"⟩
abbrev cX10_tellWhere : ByteArray := prog_1_method_7_code
def yX10_tellWhere : MethodName := ⟨RX10, "tellWhere", "()I"⟩
abbrev cX10_rule : ByteArray := prog_1_method_8_code
def yX10_rule : MethodName := ⟨RX10, "rule", "(I)I"⟩
abbrev cX10_table : ByteArray := prog_1_method_9_code
def yX10_table : MethodName := ⟨RX10, "table", "(II)I"⟩
abbrev cX10_rows : ByteArray := prog_1_method_10_code
def yX10_rows : MethodName := ⟨RX10, "rows", "(III)I"⟩
abbrev cX10_countOf : ByteArray := prog_1_method_11_code
def yX10_countOf : MethodName := ⟨RX10, "countOf", "(III)I"⟩
abbrev cX10_bucket : ByteArray := prog_1_method_12_code
def yX10_bucket : MethodName := ⟨RX10, "bucket", "(IIII)I"⟩
abbrev cX10_column : ByteArray := prog_1_method_13_code
def yX10_column : MethodName := ⟨RX10, "column", "(III)I"⟩
abbrev cX10_error : ByteArray := prog_1_method_14_code
def yX10_error : MethodName := ⟨RX10, "error", "(III)J"⟩
abbrev cX10_border : ByteArray := prog_1_method_15_code
def yX10_border : MethodName := ⟨RX10, "border", "(IIII)I"⟩
abbrev cX10_tried : ByteArray := prog_1_method_16_code
def yX10_tried : MethodName := ⟨RX10, "tried", "(IIII)I"⟩
abbrev cX10_fewest : ByteArray := prog_1_method_17_code
def yX10_fewest : MethodName := ⟨RX10, "fewest", "(IIJ)I"⟩
abbrev cX10_solve : ByteArray := prog_1_method_18_code
def yX10_solve : MethodName := ⟨RX10, "solve", "(III)Z"⟩
abbrev cX10_add : ByteArray := prog_1_method_19_code
def yX10_add : MethodName := ⟨RX10, "add", "(IIII)I"⟩
abbrev cX10_drop : ByteArray := prog_1_method_20_code
def yX10_drop : MethodName := ⟨RX10, "drop", "(IIII)I"⟩
abbrev cX10_move : ByteArray := prog_1_method_21_code
def yX10_move : MethodName := ⟨RX10, "move", "(IIIII)I"⟩
abbrev cX10_build : ByteArray := prog_1_method_22_code
def yX10_build : MethodName := ⟨RX10, "build", "(II)I"⟩
abbrev cX10_budget : ByteArray := prog_1_method_23_code
def yX10_budget : MethodName := ⟨RX10, "budget", "(I)I"⟩
abbrev cX10_whyNoAdd : ByteArray := prog_1_method_24_code
def yX10_whyNoAdd : MethodName := ⟨RX10, "whyNoAdd", "(IIII)I"⟩
abbrev cX10_whyNoDrop : ByteArray := prog_1_method_25_code
def yX10_whyNoDrop : MethodName := ⟨RX10, "whyNoDrop", "(IIII)I"⟩
abbrev cX10_whyNoRows : ByteArray := prog_1_method_26_code
def yX10_whyNoRows : MethodName := ⟨RX10, "whyNoRows", "(IIII)I"⟩
abbrev cX10_whyNoBuild : ByteArray := prog_1_method_27_code
def yX10_whyNoBuild : MethodName := ⟨RX10, "whyNoBuild", "(II)I"⟩
abbrev cX10_refuse : ByteArray := prog_1_method_28_code
def yX10_refuse : MethodName := ⟨RX10, "refuse", "(I)I"⟩
abbrev cX10_doChange : ByteArray := prog_1_method_29_code
def yX10_doChange : MethodName := ⟨RX10, "doChange", "(IIII)V"⟩
abbrev cX10_doBuild : ByteArray := prog_1_method_30_code
def yX10_doBuild : MethodName := ⟨RX10, "doBuild", "(II)V"⟩
abbrev cX10_years : ByteArray := prog_1_method_31_code
def yX10_years : MethodName := ⟨RX10, "years", "(IJ)I"⟩
abbrev cX10_passYear : ByteArray := prog_1_method_32_code
def yX10_passYear : MethodName := ⟨RX10, "passYear", "()V"⟩
abbrev cX10_draw : ByteArray := prog_1_method_33_code
def yX10_draw : MethodName := ⟨RX10, "draw", "(I)I"⟩
abbrev cX10_drawOrMissing : ByteArray := prog_1_method_34_code
def yX10_drawOrMissing : MethodName := ⟨RX10, "drawOrMissing", "(I)I"⟩
abbrev cX10_status : ByteArray := prog_1_method_35_code
def yX10_status : MethodName := ⟨RX10, "status", "(I)I"⟩
abbrev cX10_undo : ByteArray := prog_1_method_36_code
def yX10_undo : MethodName := ⟨RX10, "undo", "()I"⟩
abbrev cX10_log : ByteArray := prog_1_method_37_code
def yX10_log : MethodName := ⟨RX10, "log", "(II)I"⟩
abbrev cX10_where : ByteArray := prog_1_method_38_code
def yX10_where : MethodName := ⟨RX10, "where", "(III)I"⟩
abbrev cX10_join : ByteArray := prog_1_method_39_code
def yX10_join : MethodName := ⟨RX10, "join", "(IIIII)J"⟩
abbrev cX10_chain : ByteArray := prog_1_method_40_code
def yX10_chain : MethodName := ⟨RX10, "chain", "(I)J"⟩
abbrev cX10_beginLook : ByteArray := prog_1_method_41_code
def yX10_beginLook : MethodName := ⟨RX10, "beginLook", "()V"⟩
abbrev cX10_take : ByteArray := prog_1_method_42_code
def yX10_take : MethodName := ⟨RX10, "take", "(I)V"⟩
abbrev cX10_endLook : ByteArray := prog_1_method_43_code
def yX10_endLook : MethodName := ⟨RX10, "endLook", "(J)J"⟩
abbrev cX10_trace : ByteArray := prog_1_method_44_code
def yX10_trace : MethodName := ⟨RX10, "trace", "(I)I"⟩
abbrev cX10_narrow : ByteArray := prog_1_method_45_code
def yX10_narrow : MethodName := ⟨RX10, "narrow", "(III)I"⟩
abbrev cX10_asIfBuilt : ByteArray := prog_1_method_46_code
def yX10_asIfBuilt : MethodName := ⟨RX10, "asIfBuilt", "(LSafeBuckets$Lane;)LSafeBuckets$Lane;"⟩
abbrev cX10_odds : ByteArray := prog_1_method_47_code
def yX10_odds : MethodName := ⟨RX10, "odds", "(IIII)J"⟩
abbrev cX10_commonDivisor : ByteArray := prog_1_method_48_code
def yX10_commonDivisor : MethodName := ⟨RX10, "commonDivisor", "(JJ)J"⟩
abbrev cX10_unit : ByteArray := prog_1_method_49_code
def yX10_unit : MethodName := ⟨RX10, "unit", "(III)I"⟩
abbrev cX10_shares : ByteArray := prog_1_method_50_code
def yX10_shares : MethodName := ⟨RX10, "shares", "(II)I"⟩
abbrev cX10_most : ByteArray := prog_1_method_51_code
def yX10_most : MethodName := ⟨RX10, "most", "(I)I"⟩
abbrev cX10_image : ByteArray := prog_1_method_52_code
def yX10_image : MethodName := ⟨RX10, "image", "()I"⟩
abbrev cX10_back : ByteArray := prog_1_method_53_code
def yX10_back : MethodName := ⟨RX10, "back", "()I"⟩
abbrev cX10_count : ByteArray := prog_1_method_54_code
def yX10_count : MethodName := ⟨RX10, "count", "(I)I"⟩
abbrev cX10_hasBook : ByteArray := prog_1_method_55_code
def yX10_hasBook : MethodName := ⟨RX10, "hasBook", "()Z"⟩
abbrev cX10_hasTable : ByteArray := prog_1_method_56_code
def yX10_hasTable : MethodName := ⟨RX10, "hasTable", "(I)Z"⟩
abbrev cX10_hasColumn : ByteArray := prog_1_method_57_code
def yX10_hasColumn : MethodName := ⟨RX10, "hasColumn", "(II)Z"⟩
abbrev cX10_hasCell : ByteArray := prog_1_method_58_code
def yX10_hasCell : MethodName := ⟨RX10, "hasCell", "(III)Z"⟩
abbrev cX10_hasWhere : ByteArray := prog_1_method_59_code
def yX10_hasWhere : MethodName := ⟨RX10, "hasWhere", "(I)Z"⟩
def RX11 : String := "SafeBucketsModel"
def TX11 : u_T := fun k => match k with
  | 0 => ("SafeBucketsModel", "thrown", "I", false)
  | 1 => ("SafeBucketsModel", "tape", "[I", true)
  | 2 => ("SafeBucketsModel", "taped", "I", false)
  | 3 => ("SafeBucketsModel", "at", "I", false)
  | 4 => ("SafeBucketsModel", "wrong", "I", false)
  | 5 => ("SafeBucketsModel", "readRule", "[I", true)
  | 6 => ("SafeBucketsModel", "readTable", "[I", true)
  | 7 => ("SafeBucketsModel", "readRows", "[I", true)
  | 8 => ("SafeBucketsModel", "readTables", "I", false)
  | 9 => ("SafeBucketsModel", "readLines", "I", false)
  | 10 => ("SafeBucketsModel", "rule", "[I", true)
  | 11 => ("SafeBucketsModel", "values", "[I", true)
  | 12 => ("SafeBucketsModel", "tables", "I", false)
  | 13 => ("SafeBucketsModel", "units", "[I", true)
  | 14 => ("SafeBucketsModel", "unitMany", "[I", true)
  | 15 => ("SafeBucketsModel", "wheres", "I", false)
  | 16 => ("SafeBucketsModel", "now", "[I", true)
  | 17 => ("SafeBucketsModel", "refused", "[I", true)
  | 18 => ("SafeBucketsModel", "counts", "[I", true)
  | 19 => ("SafeBucketsModel", "countMany", "I", false)
  | 20 => ("SafeBucketsModel", "least", "[J", true)
  | 21 => ("SafeBucketsModel", "borders", "[I", true)
  | 22 => ("SafeBucketsModel", "kept", "[I", true)
  | 23 => ("SafeBucketsModel", "acts", "I", false)
  | 24 => ("SafeBucketsModel", "drawn", "J", false)
  | 25 => ("SafeBucketsModel", "trace", "[I", true)
  | 26 => ("SafeBucketsModel", "traced", "I", false)
  | 27 => ("SafeBucketsModel", "stepsLeft", "I", false)
  | 28 => ("SafeBucketsModel", "isStopped", "Z", false)
  | 29 => ("SafeBucketsModel", "sorted", "[I", true)
  | 30 => ("SafeBucketsModel", "aside", "[I", true)
  | 31 => ("SafeBucketsModel", "image", "[I", true)
  | _ => ("SafeBucketsModel", "hasImage", "Z", false)
def tyX11 : Nat → FieldType := fun k => match k with
  | 0 => .int
  | 1 => .array .int
  | 2 => .int
  | 3 => .int
  | 4 => .int
  | 5 => .array .int
  | 6 => .array .int
  | 7 => .array .int
  | 8 => .int
  | 9 => .int
  | 10 => .array .int
  | 11 => .array .int
  | 12 => .int
  | 13 => .array .int
  | 14 => .array .int
  | 15 => .int
  | 16 => .array .int
  | 17 => .array .int
  | 18 => .array .int
  | 19 => .int
  | 20 => .array .long
  | 21 => .array .int
  | 22 => .array .int
  | 23 => .int
  | 24 => .long
  | 25 => .array .int
  | 26 => .int
  | 27 => .int
  | 28 => .boolean
  | 29 => .array .int
  | 30 => .array .int
  | 31 => .array .int
  | _ => .boolean
abbrev wsX110 : List Cond := u_ws RX11 TX11 33
theorem nmX11 : ∀ a, a < 33 → ∀ b, b < 33 → a ≠ b → (TX11 a).2.1 ≠ (TX11 b).2.1 := by decide +kernel
theorem tyX11_ok : ∀ k, k < 33 → parseFieldDescriptor (TX11 k).2.2.1 = some (tyX11 k) := by decide +kernel
abbrev cX11_in : ByteArray := prog_13_method_1_code
def yX11_in : MethodName := ⟨RX11, "in", "(JJJ)Z"⟩
abbrev cX11_has : ByteArray := prog_13_method_2_code
def yX11_has : MethodName := ⟨RX11, "has", "(II)Z"⟩
abbrev cX11_init : ByteArray := prog_13_method_3_code
def yX11_init : MethodName := ⟨RX11, "<init>", "()V"⟩
abbrev cX11_thrown : ByteArray := prog_13_method_4_code
def yX11_thrown : MethodName := ⟨RX11, "thrown", "()I"⟩
abbrev cX11_byteOf : ByteArray := prog_13_method_5_code
def yX11_byteOf : MethodName := ⟨RX11, "byteOf", "(IIIIII)I"⟩
abbrev cX11_feed : ByteArray := prog_13_method_6_code
def yX11_feed : MethodName := ⟨RX11, "feed", "(IIIII)I"⟩
abbrev cX11_end : ByteArray := prog_13_method_7_code
def yX11_end : MethodName := ⟨RX11, "end", "(I)Z"⟩
abbrev cX11_here : ByteArray := prog_13_method_8_code
def yX11_here : MethodName := ⟨RX11, "here", "()I"⟩
abbrev cX11_ahead : ByteArray := prog_13_method_9_code
def yX11_ahead : MethodName := ⟨RX11, "ahead", "()I"⟩
abbrev cX11_bad : ByteArray := prog_13_method_10_code
def yX11_bad : MethodName := ⟨RX11, "bad", "()V"⟩
abbrev cX11_isDigit : ByteArray := prog_13_method_11_code
def yX11_isDigit : MethodName := ⟨RX11, "isDigit", "(I)Z"⟩
abbrev cX11_number : ByteArray := prog_13_method_12_code
def yX11_number : MethodName := ⟨RX11, "number", "(III)I"⟩
abbrev cX11_itemOf : ByteArray := prog_13_method_13_code
def yX11_itemOf : MethodName := ⟨RX11, "itemOf", "(II)I"⟩
abbrev cX11_lowest : ByteArray := prog_13_method_14_code
def yX11_lowest : MethodName := ⟨RX11, "lowest", "(II)I"⟩
abbrev cX11_highest : ByteArray := prog_13_method_15_code
def yX11_highest : MethodName := ⟨RX11, "highest", "(II)I"⟩
abbrev cX11_usual : ByteArray := prog_13_method_16_code
def yX11_usual : MethodName := ⟨RX11, "usual", "(II)I"⟩
abbrev cX11_items : ByteArray := prog_13_method_17_code
def yX11_items : MethodName := ⟨RX11, "items", "(I[III)V"⟩
abbrev cX11_isWhole : ByteArray := prog_13_method_18_code
def yX11_isWhole : MethodName := ⟨RX11, "isWhole", "()Z"⟩
abbrev cX11_readBook : ByteArray := prog_13_method_19_code
def yX11_readBook : MethodName := ⟨RX11, "readBook", "()I"⟩
abbrev cX11_readUnit : ByteArray := prog_13_method_20_code
def yX11_readUnit : MethodName := ⟨RX11, "readUnit", "(II)V"⟩
abbrev cX11_readWhere : ByteArray := prog_13_method_21_code
def yX11_readWhere : MethodName := ⟨RX11, "readWhere", "(I)I"⟩
abbrev cX11_fault : ByteArray := prog_13_method_22_code
def yX11_fault : MethodName := ⟨RX11, "fault", "(I)I"⟩
abbrev cX11_place : ByteArray := prog_13_method_23_code
def yX11_place : MethodName := ⟨RX11, "place", "(III)I"⟩
abbrev cX11_column : ByteArray := prog_13_method_24_code
def yX11_column : MethodName := ⟨RX11, "column", "(II)I"⟩
abbrev cX11_drift : ByteArray := prog_13_method_25_code
def yX11_drift : MethodName := ⟨RX11, "drift", "(II)I"⟩
abbrev cX11_bucketMany : ByteArray := prog_13_method_26_code
def yX11_bucketMany : MethodName := ⟨RX11, "bucketMany", "(II)I"⟩
abbrev cX11_of : ByteArray := prog_13_method_27_code
def yX11_of : MethodName := ⟨RX11, "of", "(IIII)I"⟩
abbrev cX11_put : ByteArray := prog_13_method_28_code
def yX11_put : MethodName := ⟨RX11, "put", "(IIIII)V"⟩
abbrev cX11_isBook : ByteArray := prog_13_method_29_code
def yX11_isBook : MethodName := ⟨RX11, "isBook", "()Z"⟩
abbrev cX11_isTable : ByteArray := prog_13_method_30_code
def yX11_isTable : MethodName := ⟨RX11, "isTable", "(I)Z"⟩
abbrev cX11_isColumn : ByteArray := prog_13_method_31_code
def yX11_isColumn : MethodName := ⟨RX11, "isColumn", "(II)Z"⟩
abbrev cX11_isValue : ByteArray := prog_13_method_32_code
def yX11_isValue : MethodName := ⟨RX11, "isValue", "(II)Z"⟩
abbrev cX11_countAt : ByteArray := prog_13_method_33_code
def yX11_countAt : MethodName := ⟨RX11, "countAt", "(III)I"⟩
abbrev cX11_rowsOf : ByteArray := prog_13_method_34_code
def yX11_rowsOf : MethodName := ⟨RX11, "rowsOf", "(I)I"⟩
abbrev cX11_rowsOfAll : ByteArray := prog_13_method_35_code
def yX11_rowsOfAll : MethodName := ⟨RX11, "rowsOfAll", "()I"⟩
abbrev cX11_layCounts : ByteArray := prog_13_method_36_code
def yX11_layCounts : MethodName := ⟨RX11, "layCounts", "(II)V"⟩
abbrev cX11_errorOf : ByteArray := prog_13_method_37_code
def yX11_errorOf : MethodName := ⟨RX11, "errorOf", "(II)J"⟩
abbrev cX11_leastAt : ByteArray := prog_13_method_38_code
def yX11_leastAt : MethodName := ⟨RX11, "leastAt", "(II)I"⟩
abbrev cX11_layLeast : ByteArray := prog_13_method_39_code
def yX11_layLeast : MethodName := ⟨RX11, "layLeast", "(I)V"⟩
abbrev cX11_layBorders : ByteArray := prog_13_method_40_code
def yX11_layBorders : MethodName := ⟨RX11, "layBorders", "(I)V"⟩
abbrev cX11_buildNow : ByteArray := prog_13_method_41_code
def yX11_buildNow : MethodName := ⟨RX11, "buildNow", "(II)V"⟩
abbrev cX11_takeBook : ByteArray := prog_13_method_42_code
def yX11_takeBook : MethodName := ⟨RX11, "takeBook", "()I"⟩
abbrev cX11_text : ByteArray := prog_13_method_43_code
def yX11_text : MethodName := ⟨RX11, "text", "(I)I"⟩
abbrev cX11_rule : ByteArray := prog_13_method_44_code
def yX11_rule : MethodName := ⟨RX11, "rule", "(I)I"⟩
abbrev cX11_table : ByteArray := prog_13_method_45_code
def yX11_table : MethodName := ⟨RX11, "table", "(II)I"⟩
abbrev cX11_rows : ByteArray := prog_13_method_46_code
def yX11_rows : MethodName := ⟨RX11, "rows", "(III)I"⟩
abbrev cX11_countOf : ByteArray := prog_13_method_47_code
def yX11_countOf : MethodName := ⟨RX11, "countOf", "(III)I"⟩
abbrev cX11_bucket : ByteArray := prog_13_method_48_code
def yX11_bucket : MethodName := ⟨RX11, "bucket", "(IIII)I"⟩
abbrev cX11_worst : ByteArray := prog_13_method_49_code
def yX11_worst : MethodName := ⟨RX11, "worst", "(II)I"⟩
abbrev cX11_column_ : ByteArray := prog_13_method_50_code
def yX11_column_ : MethodName := ⟨RX11, "column", "(III)I"⟩
abbrev cX11_isBuilding : ByteArray := prog_13_method_51_code
def yX11_isBuilding : MethodName := ⟨RX11, "isBuilding", "(III)Z"⟩
abbrev cX11_error : ByteArray := prog_13_method_52_code
def yX11_error : MethodName := ⟨RX11, "error", "(III)J"⟩
abbrev cX11_border : ByteArray := prog_13_method_53_code
def yX11_border : MethodName := ⟨RX11, "border", "(IIII)I"⟩
abbrev cX11_triedFrom : ByteArray := prog_13_method_54_code
def yX11_triedFrom : MethodName := ⟨RX11, "triedFrom", "(IIZ)I"⟩
abbrev cX11_tried : ByteArray := prog_13_method_55_code
def yX11_tried : MethodName := ⟨RX11, "tried", "(IIII)I"⟩
abbrev cX11_fewest : ByteArray := prog_13_method_56_code
def yX11_fewest : MethodName := ⟨RX11, "fewest", "(IIJ)I"⟩
abbrev cX11_keep : ByteArray := prog_13_method_57_code
def yX11_keep : MethodName := ⟨RX11, "keep", "()V"⟩
abbrev cX11_isRefused : ByteArray := prog_13_method_58_code
def yX11_isRefused : MethodName := ⟨RX11, "isRefused", "(IIII)Z"⟩
abbrev cX11_bucketOf : ByteArray := prog_13_method_59_code
def yX11_bucketOf : MethodName := ⟨RX11, "bucketOf", "(III)I"⟩
abbrev cX11_drifts : ByteArray := prog_13_method_60_code
def yX11_drifts : MethodName := ⟨RX11, "drifts", "(IIII)V"⟩
abbrev cX11_change : ByteArray := prog_13_method_61_code
def yX11_change : MethodName := ⟨RX11, "change", "(IIII)V"⟩
abbrev cX11_areThere : ByteArray := prog_13_method_62_code
def yX11_areThere : MethodName := ⟨RX11, "areThere", "(III)Z"⟩
abbrev cX11_whyAdd : ByteArray := prog_13_method_63_code
def yX11_whyAdd : MethodName := ⟨RX11, "whyAdd", "(IIII)I"⟩
abbrev cX11_whyDrop : ByteArray := prog_13_method_64_code
def yX11_whyDrop : MethodName := ⟨RX11, "whyDrop", "(IIII)I"⟩
abbrev cX11_whyBuild : ByteArray := prog_13_method_65_code
def yX11_whyBuild : MethodName := ⟨RX11, "whyBuild", "(II)I"⟩
abbrev cX11_add : ByteArray := prog_13_method_66_code
def yX11_add : MethodName := ⟨RX11, "add", "(IIII)I"⟩
abbrev cX11_drop : ByteArray := prog_13_method_67_code
def yX11_drop : MethodName := ⟨RX11, "drop", "(IIII)I"⟩
abbrev cX11_move : ByteArray := prog_13_method_68_code
def yX11_move : MethodName := ⟨RX11, "move", "(IIIII)I"⟩
abbrev cX11_build : ByteArray := prog_13_method_69_code
def yX11_build : MethodName := ⟨RX11, "build", "(II)I"⟩
abbrev cX11_budget : ByteArray := prog_13_method_70_code
def yX11_budget : MethodName := ⟨RX11, "budget", "(I)I"⟩
abbrev cX11_draw : ByteArray := prog_13_method_71_code
def yX11_draw : MethodName := ⟨RX11, "draw", "(I)I"⟩
abbrev cX11_drawValue : ByteArray := prog_13_method_72_code
def yX11_drawValue : MethodName := ⟨RX11, "drawValue", "(I)I"⟩
abbrev cX11_drawYear : ByteArray := prog_13_method_73_code
def yX11_drawYear : MethodName := ⟨RX11, "drawYear", "()V"⟩
abbrev cX11_years : ByteArray := prog_13_method_74_code
def yX11_years : MethodName := ⟨RX11, "years", "(IJ)I"⟩
abbrev cX11_status : ByteArray := prog_13_method_75_code
def yX11_status : MethodName := ⟨RX11, "status", "(I)I"⟩
abbrev cX11_undo : ByteArray := prog_13_method_76_code
def yX11_undo : MethodName := ⟨RX11, "undo", "()I"⟩
abbrev cX11_log : ByteArray := prog_13_method_77_code
def yX11_log : MethodName := ⟨RX11, "log", "(II)I"⟩
abbrev cX11_begin : ByteArray := prog_13_method_78_code
def yX11_begin : MethodName := ⟨RX11, "begin", "()V"⟩
abbrev cX11_take : ByteArray := prog_13_method_79_code
def yX11_take : MethodName := ⟨RX11, "take", "(I)V"⟩
abbrev cX11_isOver : ByteArray := prog_13_method_80_code
def yX11_isOver : MethodName := ⟨RX11, "isOver", "()Z"⟩
abbrev cX11_finish : ByteArray := prog_13_method_81_code
def yX11_finish : MethodName := ⟨RX11, "finish", "(J)J"⟩
abbrev cX11_trace : ByteArray := prog_13_method_82_code
def yX11_trace : MethodName := ⟨RX11, "trace", "(I)I"⟩
abbrev cX11_unitAt : ByteArray := prog_13_method_83_code
def yX11_unitAt : MethodName := ⟨RX11, "unitAt", "(III)I"⟩
abbrev cX11_isUnitOf : ByteArray := prog_13_method_84_code
def yX11_isUnitOf : MethodName := ⟨RX11, "isUnitOf", "(III)Z"⟩
abbrev cX11_terms : ByteArray := prog_13_method_85_code
def yX11_terms : MethodName := ⟨RX11, "terms", "(I)I"⟩
abbrev cX11_isTermOf : ByteArray := prog_13_method_86_code
def yX11_isTermOf : MethodName := ⟨RX11, "isTermOf", "(IIII)Z"⟩
abbrev cX11_holds : ByteArray := prog_13_method_87_code
def yX11_holds : MethodName := ⟨RX11, "holds", "(III)Z"⟩
abbrev cX11_truth : ByteArray := prog_13_method_88_code
def yX11_truth : MethodName := ⟨RX11, "truth", "(IIZ)I"⟩
abbrev cX11_unitBy : ByteArray := prog_13_method_89_code
def yX11_unitBy : MethodName := ⟨RX11, "unitBy", "(IIII)I"⟩
abbrev cX11_termBy : ByteArray := prog_13_method_90_code
def yX11_termBy : MethodName := ⟨RX11, "termBy", "(IIII)I"⟩
abbrev cX11_whereBy : ByteArray := prog_13_method_91_code
def yX11_whereBy : MethodName := ⟨RX11, "whereBy", "(III)I"⟩
abbrev cX11_isWhere : ByteArray := prog_13_method_92_code
def yX11_isWhere : MethodName := ⟨RX11, "isWhere", "(I)Z"⟩
abbrev cX11_where : ByteArray := prog_13_method_93_code
def yX11_where : MethodName := ⟨RX11, "where", "(III)I"⟩
abbrev cX11_countIn : ByteArray := prog_13_method_94_code
def yX11_countIn : MethodName := ⟨RX11, "countIn", "(III)I"⟩
abbrev cX11_joinTruth : ByteArray := prog_13_method_95_code
def yX11_joinTruth : MethodName := ⟨RX11, "joinTruth", "(IIII)J"⟩
abbrev cX11_joinBy : ByteArray := prog_13_method_96_code
def yX11_joinBy : MethodName := ⟨RX11, "joinBy", "(IIIIZ)J"⟩
abbrev cX11_sortCounts : ByteArray := prog_13_method_97_code
def yX11_sortCounts : MethodName := ⟨RX11, "sortCounts", "(III)V"⟩
abbrev cX11_degrees : ByteArray := prog_13_method_98_code
def yX11_degrees : MethodName := ⟨RX11, "degrees", "(IIII)J"⟩
abbrev cX11_join : ByteArray := prog_13_method_99_code
def yX11_join : MethodName := ⟨RX11, "join", "(IIIII)J"⟩
abbrev cX11_chainTruth : ByteArray := prog_13_method_100_code
def yX11_chainTruth : MethodName := ⟨RX11, "chainTruth", "()J"⟩
abbrev cX11_greatestOf : ByteArray := prog_13_method_101_code
def yX11_greatestOf : MethodName := ⟨RX11, "greatestOf", "(II)J"⟩
abbrev cX11_chain : ByteArray := prog_13_method_102_code
def yX11_chain : MethodName := ⟨RX11, "chain", "(I)J"⟩
abbrev cX11_gapIfBuilt : ByteArray := prog_13_method_103_code
def yX11_gapIfBuilt : MethodName := ⟨RX11, "gapIfBuilt", "(III)I"⟩
abbrev cX11_narrow : ByteArray := prog_13_method_104_code
def yX11_narrow : MethodName := ⟨RX11, "narrow", "(III)I"⟩
abbrev cX11_odds : ByteArray := prog_13_method_105_code
def yX11_odds : MethodName := ⟨RX11, "odds", "(IIII)J"⟩
abbrev cX11_unit : ByteArray := prog_13_method_106_code
def yX11_unit : MethodName := ⟨RX11, "unit", "(III)I"⟩
abbrev cX11_shares : ByteArray := prog_13_method_107_code
def yX11_shares : MethodName := ⟨RX11, "shares", "(II)I"⟩
abbrev cX11_longest : ByteArray := prog_13_method_108_code
def yX11_longest : MethodName := ⟨RX11, "longest", "()I"⟩
abbrev cX11_mostDrifted : ByteArray := prog_13_method_109_code
def yX11_mostDrifted : MethodName := ⟨RX11, "mostDrifted", "()I"⟩
abbrev cX11_greatestTotal : ByteArray := prog_13_method_110_code
def yX11_greatestTotal : MethodName := ⟨RX11, "greatestTotal", "()I"⟩
abbrev cX11_mostAlike : ByteArray := prog_13_method_111_code
def yX11_mostAlike : MethodName := ⟨RX11, "mostAlike", "()I"⟩
abbrev cX11_commonest : ByteArray := prog_13_method_112_code
def yX11_commonest : MethodName := ⟨RX11, "commonest", "()I"⟩
abbrev cX11_most : ByteArray := prog_13_method_113_code
def yX11_most : MethodName := ⟨RX11, "most", "(I)I"⟩
abbrev cX11_image : ByteArray := prog_13_method_114_code
def yX11_image : MethodName := ⟨RX11, "image", "()I"⟩
abbrev cX11_back : ByteArray := prog_13_method_115_code
def yX11_back : MethodName := ⟨RX11, "back", "()I"⟩
abbrev cX11_count : ByteArray := prog_13_method_116_code
def yX11_count : MethodName := ⟨RX11, "count", "(I)I"⟩
def RJ11 : String := "java/lang/Character"
abbrev cJ11_isValidCodePoint_9a6ad : ByteArray := prog_16_method_11_code
def yJ11_isValidCodePoint_9a6ad : MethodName := ⟨RJ11, "isValidCodePoint", "(I)Z"⟩
abbrev cJ11_highSurrogate_5068e : ByteArray := prog_16_method_28_code
def yJ11_highSurrogate_5068e : MethodName := ⟨RJ11, "highSurrogate", "(I)C"⟩
abbrev cJ11_lowSurrogate_5068e : ByteArray := prog_16_method_29_code
def yJ11_lowSurrogate_5068e : MethodName := ⟨RJ11, "lowSurrogate", "(I)C"⟩
def RJ9 : String := "java/lang/Math"
abbrev cJ9_floorMod_7cf53 : ByteArray := prog_19_method_50_code
def yJ9_floorMod_7cf53 : MethodName := ⟨RJ9, "floorMod", "(II)I"⟩
abbrev cJ9_abs_0f7a4 : ByteArray := prog_19_method_59_code
def yJ9_abs_0f7a4 : MethodName := ⟨RJ9, "abs", "(I)I"⟩
abbrev cJ9_max_7cf53 : ByteArray := prog_19_method_65_code
def yJ9_max_7cf53 : MethodName := ⟨RJ9, "max", "(II)I"⟩
abbrev cJ9_min_7cf53 : ByteArray := prog_19_method_69_code
def yJ9_min_7cf53 : MethodName := ⟨RJ9, "min", "(II)I"⟩
abbrev cJ9_min_f86c9 : ByteArray := prog_19_method_70_code
def yJ9_min_f86c9 : MethodName := ⟨RJ9, "min", "(JJ)J"⟩
def RJ0 : String := "java/lang/String"
abbrev cJ0_length_8abf5 : ByteArray := prog_21_method_54_code
def yJ0_length_8abf5 : MethodName := ⟨RJ0, "length", "()I"⟩
abbrev cJ0_charAt_5068e : ByteArray := prog_21_method_56_code
def yJ0_charAt_5068e : MethodName := ⟨RJ0, "charAt", "(I)C"⟩
abbrev cJ0_indexOf_0f7a4 : ByteArray := prog_21_method_79_code
def yJ0_indexOf_0f7a4 : MethodName := ⟨RJ0, "indexOf", "(I)I"⟩
abbrev cJ0_indexOf_7cf53 : ByteArray := prog_21_method_80_code
def yJ0_indexOf_7cf53 : MethodName := ⟨RJ0, "indexOf", "(II)I"⟩
abbrev cJ0_coder_7d493 : ByteArray := prog_21_method_152_code
def yJ0_coder_7d493 : MethodName := ⟨RJ0, "coder", "()B"⟩
abbrev cJ0_isLatin1_aae02 : ByteArray := prog_21_method_154_code
def yJ0_isLatin1_aae02 : MethodName := ⟨RJ0, "isLatin1", "()Z"⟩
abbrev cJ0_checkIndex_df160 : ByteArray := prog_21_method_155_code
def yJ0_checkIndex_df160 : MethodName := ⟨RJ0, "checkIndex", "(II)V"⟩
abbrev cJ0_checkBoundsBeginEnd_23922 : ByteArray := prog_21_method_158_code
def yJ0_checkBoundsBeginEnd_23922 : MethodName := ⟨RJ0, "checkBoundsBeginEnd", "(III)V"⟩
def RJ1 : String := "java/lang/StringLatin1"
abbrev cJ1_charAt_3b067 : ByteArray := prog_22_method_2_code
def yJ1_charAt_3b067 : MethodName := ⟨RJ1, "charAt", "([BI)C"⟩
abbrev cJ1_canEncode_9a6ad : ByteArray := prog_22_method_4_code
def yJ1_canEncode_9a6ad : MethodName := ⟨RJ1, "canEncode", "(I)Z"⟩
abbrev cJ1_indexOf_4cfef : ByteArray := prog_22_method_22_code
def yJ1_indexOf_4cfef : MethodName := ⟨RJ1, "indexOf", "([BIII)I"⟩
abbrev cJ1_indexOfChar_4cfef : ByteArray := prog_22_method_23_code
def yJ1_indexOfChar_4cfef : MethodName := ⟨RJ1, "indexOfChar", "([BIII)I"⟩
def RJ2 : String := "java/lang/StringUTF16"
abbrev cJ2_getChar_3b067 : ByteArray := prog_23_method_5_code
def yJ2_getChar_3b067 : MethodName := ⟨RJ2, "getChar", "([BI)C"⟩
abbrev cJ2_length_9d52b : ByteArray := prog_23_method_6_code
def yJ2_length_9d52b : MethodName := ⟨RJ2, "length", "([B)I"⟩
abbrev cJ2_indexOf_4cfef : ByteArray := prog_23_method_40_code
def yJ2_indexOf_4cfef : MethodName := ⟨RJ2, "indexOf", "([BIII)I"⟩
abbrev cJ2_indexOfChar_4cfef : ByteArray := prog_23_method_47_code
def yJ2_indexOfChar_4cfef : MethodName := ⟨RJ2, "indexOfChar", "([BIII)I"⟩
abbrev cJ2_indexOfCharUnsafe_4cfef : ByteArray := prog_23_method_48_code
def yJ2_indexOfCharUnsafe_4cfef : MethodName := ⟨RJ2, "indexOfCharUnsafe", "([BIII)I"⟩
abbrev cJ2_indexOfSupplementary_4cfef : ByteArray := prog_23_method_49_code
def yJ2_indexOfSupplementary_4cfef : MethodName := ⟨RJ2, "indexOfSupplementary", "([BIII)I"⟩
abbrev cJ2_charAt_3b067 : ByteArray := prog_23_method_83_code
def yJ2_charAt_3b067 : MethodName := ⟨RJ2, "charAt", "([BI)C"⟩
abbrev cJ2_checkIndex_2214a : ByteArray := prog_23_method_91_code
def yJ2_checkIndex_2214a : MethodName := ⟨RJ2, "checkIndex", "(I[B)V"⟩
abbrev cJ2_checkBoundsBeginEnd_d044e : ByteArray := prog_23_method_93_code
def yJ2_checkBoundsBeginEnd_d044e : MethodName := ⟨RJ2, "checkBoundsBeginEnd", "(II[B)V"⟩
def RJ10 : String := "java/lang/System"
def RJ7 : String := "java/util/Arrays"
abbrev cJ7_fill_53178 : ByteArray := prog_28_method_103_code
def yJ7_fill_53178 : MethodName := ⟨RJ7, "fill", "([II)V"⟩
def RJ3 : String := "jdk/internal/util/Preconditions"
abbrev cJ3_checkIndex_8e157 : ByteArray := prog_30_method_11_code
def yJ3_checkIndex_8e157 : MethodName := ⟨RJ3, "checkIndex", "(IILjava/util/function/BiFunction;)I"⟩
abbrev cJ3_checkFromToIndex_8c36e : ByteArray := prog_30_method_12_code
def yJ3_checkFromToIndex_8c36e : MethodName := ⟨RJ3, "checkFromToIndex", "(IIILjava/util/function/BiFunction;)I"⟩
def RL : String := "SafeBucketsLaw"
abbrev cL_table : ByteArray := method_3_code
def yL_table : MethodName := ⟨RL, "table", "(LSafeBuckets;II[J)I"⟩
abbrev cL_law : ByteArray := code
def yL_law : MethodName := ⟨RL, "law", "([I)Z"⟩
abbrev vwCl : List vw_C := [(RX0, TX0, 6), (RX1, TX1, 6), (RX2, TX2, 9), (RX3, TX3, 2), (RX4, TX4, 4), (RX5, TX5, 6), (RX6, TX6, 3), (RX7, TX7, 4), (RX8, TX8, 4), (RX9, TX9, 5), (RX10, TX10, 14), (RX11, TX11, 33)]
