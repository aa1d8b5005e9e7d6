section
-- ===== PART A: goes FIRST, ahead of the names: the tables' words, and 'selects' of the private methods out of them =====
/-- a private method of a class that the tables say can be made, by its rows of tables_1 -/
def lw_okq (q : MethodName × Nat) : Prop := (q.1.cls ≠ "java/lang/invoke/MethodHandle" ∧ q.1.cls ≠ "java/lang/invoke/VarHandle") ∧ Cond.instantiable q.1.cls q.2 ∈ tables_1 ∧ Cond.privateMethod q.1 ∈ tables_1 ∧ Cond.instanceMethod q.1 ∈ tables_1
theorem lw_p0 : lw_okq (⟨"ApplauseTallies$History", "stateAt", "(I)LApplauseTallies$House;"⟩, 3) := ⟨⟨by decide +kernel, by decide +kernel⟩, List.mem_of_getElem? (i := 159) (by decide +kernel), List.mem_of_getElem? (i := 237) (by decide +kernel), List.mem_of_getElem? (i := 238) (by decide +kernel)⟩
theorem lw_p1 : lw_okq (⟨"ApplauseTallies$House", "beginApplause", "(I)V"⟩, 11) := ⟨⟨by decide +kernel, by decide +kernel⟩, List.mem_of_getElem? (i := 21) (by decide +kernel), List.mem_of_getElem? (i := 312) (by decide +kernel), List.mem_of_getElem? (i := 313) (by decide +kernel)⟩
theorem lw_p2 : lw_okq (⟨"ApplauseTallies$House", "bringEncore", "()V"⟩, 11) := ⟨⟨by decide +kernel, by decide +kernel⟩, List.mem_of_getElem? (i := 21) (by decide +kernel), List.mem_of_getElem? (i := 344) (by decide +kernel), List.mem_of_getElem? (i := 345) (by decide +kernel)⟩
theorem lw_p3 : lw_okq (⟨"ApplauseTallies$Pad", "append", "(I)V"⟩, 2) := ⟨⟨by decide +kernel, by decide +kernel⟩, List.mem_of_getElem? (i := 178) (by decide +kernel), List.mem_of_getElem? (i := 432) (by decide +kernel), List.mem_of_getElem? (i := 433) (by decide +kernel)⟩
theorem lw_p4 : lw_okq (⟨"ApplauseTallies$House", "suspectedNow", "()I"⟩, 11) := ⟨⟨by decide +kernel, by decide +kernel⟩, List.mem_of_getElem? (i := 21) (by decide +kernel), List.mem_of_getElem? (i := 512) (by decide +kernel), List.mem_of_getElem? (i := 513) (by decide +kernel)⟩
theorem lw_p5 : lw_okq (⟨"ApplauseTallies$OrderReader", "readOrder", "()Z"⟩, 5) := ⟨⟨by decide +kernel, by decide +kernel⟩, List.mem_of_getElem? (i := 191) (by decide +kernel), List.mem_of_getElem? (i := 585) (by decide +kernel), List.mem_of_getElem? (i := 586) (by decide +kernel)⟩
theorem lw_p6 : lw_okq (⟨"ApplauseTallies$OrderReader", "readNumber", "(I)Z"⟩, 5) := ⟨⟨by decide +kernel, by decide +kernel⟩, List.mem_of_getElem? (i := 191) (by decide +kernel), List.mem_of_getElem? (i := 590) (by decide +kernel), List.mem_of_getElem? (i := 591) (by decide +kernel)⟩
theorem lw_p7 : lw_okq (⟨"ApplauseTallies$OrderReader", "digitHere", "()I"⟩, 5) := ⟨⟨by decide +kernel, by decide +kernel⟩, List.mem_of_getElem? (i := 191) (by decide +kernel), List.mem_of_getElem? (i := 594) (by decide +kernel), List.mem_of_getElem? (i := 595) (by decide +kernel)⟩
theorem lw_p8 : lw_okq (⟨"ApplauseTallies$OrderReader", "readTimes", "()Z"⟩, 5) := ⟨⟨by decide +kernel, by decide +kernel⟩, List.mem_of_getElem? (i := 191) (by decide +kernel), List.mem_of_getElem? (i := 598) (by decide +kernel), List.mem_of_getElem? (i := 599) (by decide +kernel)⟩
theorem lw_p9 : lw_okq (⟨"ApplauseTallies$OrderReader", "readSign", "(C)Z"⟩, 5) := ⟨⟨by decide +kernel, by decide +kernel⟩, List.mem_of_getElem? (i := 191) (by decide +kernel), List.mem_of_getElem? (i := 602) (by decide +kernel), List.mem_of_getElem? (i := 603) (by decide +kernel)⟩
theorem lw_p10 : lw_okq (⟨"ApplauseTallies$OrderReader", "carryOrderOutIn", "(LApplauseTallies$House;)I"⟩, 5) := ⟨⟨by decide +kernel, by decide +kernel⟩, List.mem_of_getElem? (i := 191) (by decide +kernel), List.mem_of_getElem? (i := 615) (by decide +kernel), List.mem_of_getElem? (i := 616) (by decide +kernel)⟩
theorem lw_p11 : lw_okq (⟨"ApplauseTalliesModel", "setSeat", "(III)V"⟩, 12) := ⟨⟨by decide +kernel, by decide +kernel⟩, List.mem_of_getElem? (i := 643) (by decide +kernel), List.mem_of_getElem? (i := 649) (by decide +kernel), List.mem_of_getElem? (i := 650) (by decide +kernel)⟩
theorem lw_p12 : lw_okq (⟨"ApplauseTalliesModel", "putAside", "()V"⟩, 12) := ⟨⟨by decide +kernel, by decide +kernel⟩, List.mem_of_getElem? (i := 643) (by decide +kernel), List.mem_of_getElem? (i := 708) (by decide +kernel), List.mem_of_getElem? (i := 709) (by decide +kernel)⟩
theorem lw_p13 : lw_okq (⟨"ApplauseTalliesModel", "push", "()V"⟩, 12) := ⟨⟨by decide +kernel, by decide +kernel⟩, List.mem_of_getElem? (i := 643) (by decide +kernel), List.mem_of_getElem? (i := 712) (by decide +kernel), List.mem_of_getElem? (i := 713) (by decide +kernel)⟩
theorem lw_p14 : lw_okq (⟨"ApplauseTalliesModel", "recorded", "(I)I"⟩, 12) := ⟨⟨by decide +kernel, by decide +kernel⟩, List.mem_of_getElem? (i := 643) (by decide +kernel), List.mem_of_getElem? (i := 726) (by decide +kernel), List.mem_of_getElem? (i := 727) (by decide +kernel)⟩
theorem lw_p15 : lw_okq (⟨"ApplauseTalliesModel", "seat", "(II)I"⟩, 12) := ⟨⟨by decide +kernel, by decide +kernel⟩, List.mem_of_getElem? (i := 643) (by decide +kernel), List.mem_of_getElem? (i := 737) (by decide +kernel), List.mem_of_getElem? (i := 738) (by decide +kernel)⟩
def lw_privs_1 : List (MethodName × Nat) := [(⟨"ApplauseTallies$History", "stateAt", "(I)LApplauseTallies$House;"⟩, 3), (⟨"ApplauseTallies$House", "beginApplause", "(I)V"⟩, 11), (⟨"ApplauseTallies$House", "bringEncore", "()V"⟩, 11), (⟨"ApplauseTallies$Pad", "append", "(I)V"⟩, 2), (⟨"ApplauseTallies$House", "suspectedNow", "()I"⟩, 11), (⟨"ApplauseTallies$OrderReader", "readOrder", "()Z"⟩, 5), (⟨"ApplauseTallies$OrderReader", "readNumber", "(I)Z"⟩, 5), (⟨"ApplauseTallies$OrderReader", "digitHere", "()I"⟩, 5), (⟨"ApplauseTallies$OrderReader", "readTimes", "()Z"⟩, 5), (⟨"ApplauseTallies$OrderReader", "readSign", "(C)Z"⟩, 5), (⟨"ApplauseTallies$OrderReader", "carryOrderOutIn", "(LApplauseTallies$House;)I"⟩, 5), (⟨"ApplauseTalliesModel", "setSeat", "(III)V"⟩, 12), (⟨"ApplauseTalliesModel", "putAside", "()V"⟩, 12), (⟨"ApplauseTalliesModel", "push", "()V"⟩, 12), (⟨"ApplauseTalliesModel", "recorded", "(I)I"⟩, 12), (⟨"ApplauseTalliesModel", "seat", "(II)I"⟩, 12)]
theorem lw_r1 : ∀ q ∈ lw_privs_1, lw_okq q := List.forall_mem_cons.mpr ⟨lw_p0, List.forall_mem_cons.mpr ⟨lw_p1, List.forall_mem_cons.mpr ⟨lw_p2, List.forall_mem_cons.mpr ⟨lw_p3, List.forall_mem_cons.mpr ⟨lw_p4, List.forall_mem_cons.mpr ⟨lw_p5, List.forall_mem_cons.mpr ⟨lw_p6, List.forall_mem_cons.mpr ⟨lw_p7, List.forall_mem_cons.mpr ⟨lw_p8, List.forall_mem_cons.mpr ⟨lw_p9, List.forall_mem_cons.mpr ⟨lw_p10, List.forall_mem_cons.mpr ⟨lw_p11, List.forall_mem_cons.mpr ⟨lw_p12, List.forall_mem_cons.mpr ⟨lw_p13, List.forall_mem_cons.mpr ⟨lw_p14, List.forall_mem_cons.mpr ⟨lw_p15, fun _ h => absurd h List.not_mem_nil⟩⟩⟩⟩⟩⟩⟩⟩⟩⟩⟩⟩⟩⟩⟩⟩
theorem lw_p16 : lw_okq (⟨"ApplauseTalliesModel", "doPay", "(I)I"⟩, 12) := ⟨⟨by decide +kernel, by decide +kernel⟩, List.mem_of_getElem? (i := 643) (by decide +kernel), List.mem_of_getElem? (i := 745) (by decide +kernel), List.mem_of_getElem? (i := 746) (by decide +kernel)⟩
theorem lw_p17 : lw_okq (⟨"ApplauseTalliesModel", "those", "(ZI)I"⟩, 12) := ⟨⟨by decide +kernel, by decide +kernel⟩, List.mem_of_getElem? (i := 643) (by decide +kernel), List.mem_of_getElem? (i := 749) (by decide +kernel), List.mem_of_getElem? (i := 750) (by decide +kernel)⟩
theorem lw_p18 : lw_okq (⟨"ApplauseTalliesModel", "doEnds", "(I)I"⟩, 12) := ⟨⟨by decide +kernel, by decide +kernel⟩, List.mem_of_getElem? (i := 643) (by decide +kernel), List.mem_of_getElem? (i := 757) (by decide +kernel), List.mem_of_getElem? (i := 758) (by decide +kernel)⟩
theorem lw_p19 : lw_okq (⟨"ApplauseTalliesModel", "end", "(I)I"⟩, 12) := ⟨⟨by decide +kernel, by decide +kernel⟩, List.mem_of_getElem? (i := 643) (by decide +kernel), List.mem_of_getElem? (i := 764) (by decide +kernel), List.mem_of_getElem? (i := 765) (by decide +kernel)⟩
theorem lw_p20 : lw_okq (⟨"ApplauseTalliesModel", "doClap", "(I)I"⟩, 12) := ⟨⟨by decide +kernel, by decide +kernel⟩, List.mem_of_getElem? (i := 643) (by decide +kernel), List.mem_of_getElem? (i := 772) (by decide +kernel), List.mem_of_getElem? (i := 773) (by decide +kernel)⟩
theorem lw_p21 : lw_okq (⟨"ApplauseTalliesModel", "countClap", "(I)V"⟩, 12) := ⟨⟨by decide +kernel, by decide +kernel⟩, List.mem_of_getElem? (i := 643) (by decide +kernel), List.mem_of_getElem? (i := 776) (by decide +kernel), List.mem_of_getElem? (i := 777) (by decide +kernel)⟩
theorem lw_p22 : lw_okq (⟨"ApplauseTalliesModel", "owe", "(I)V"⟩, 12) := ⟨⟨by decide +kernel, by decide +kernel⟩, List.mem_of_getElem? (i := 643) (by decide +kernel), List.mem_of_getElem? (i := 780) (by decide +kernel), List.mem_of_getElem? (i := 781) (by decide +kernel)⟩
theorem lw_p23 : lw_okq (⟨"ApplauseTalliesModel", "countLapse", "(I)V"⟩, 12) := ⟨⟨by decide +kernel, by decide +kernel⟩, List.mem_of_getElem? (i := 643) (by decide +kernel), List.mem_of_getElem? (i := 784) (by decide +kernel), List.mem_of_getElem? (i := 785) (by decide +kernel)⟩
theorem lw_p24 : lw_okq (⟨"ApplauseTalliesModel", "doPass", "(I)I"⟩, 12) := ⟨⟨by decide +kernel, by decide +kernel⟩, List.mem_of_getElem? (i := 643) (by decide +kernel), List.mem_of_getElem? (i := 792) (by decide +kernel), List.mem_of_getElem? (i := 793) (by decide +kernel)⟩
theorem lw_p25 : lw_okq (⟨"ApplauseTalliesModel", "passSecond", "()V"⟩, 12) := ⟨⟨by decide +kernel, by decide +kernel⟩, List.mem_of_getElem? (i := 643) (by decide +kernel), List.mem_of_getElem? (i := 797) (by decide +kernel), List.mem_of_getElem? (i := 798) (by decide +kernel)⟩
theorem lw_p26 : lw_okq (⟨"ApplauseTalliesModel", "decayed", "(I)I"⟩, 12) := ⟨⟨by decide +kernel, by decide +kernel⟩, List.mem_of_getElem? (i := 643) (by decide +kernel), List.mem_of_getElem? (i := 801) (by decide +kernel), List.mem_of_getElem? (i := 802) (by decide +kernel)⟩
theorem lw_p27 : lw_okq (⟨"ApplauseTalliesModel", "owedFor", "(I)I"⟩, 12) := ⟨⟨by decide +kernel, by decide +kernel⟩, List.mem_of_getElem? (i := 643) (by decide +kernel), List.mem_of_getElem? (i := 805) (by decide +kernel), List.mem_of_getElem? (i := 806) (by decide +kernel)⟩
theorem lw_p28 : lw_okq (⟨"ApplauseTalliesModel", "drop", "(I)V"⟩, 12) := ⟨⟨by decide +kernel, by decide +kernel⟩, List.mem_of_getElem? (i := 643) (by decide +kernel), List.mem_of_getElem? (i := 809) (by decide +kernel), List.mem_of_getElem? (i := 810) (by decide +kernel)⟩
theorem lw_p29 : lw_okq (⟨"ApplauseTalliesModel", "doPlay", "(I)I"⟩, 12) := ⟨⟨by decide +kernel, by decide +kernel⟩, List.mem_of_getElem? (i := 643) (by decide +kernel), List.mem_of_getElem? (i := 817) (by decide +kernel), List.mem_of_getElem? (i := 818) (by decide +kernel)⟩
theorem lw_p30 : lw_okq (⟨"ApplauseTalliesModel", "earliest", "(I)I"⟩, 12) := ⟨⟨by decide +kernel, by decide +kernel⟩, List.mem_of_getElem? (i := 643) (by decide +kernel), List.mem_of_getElem? (i := 821) (by decide +kernel), List.mem_of_getElem? (i := 822) (by decide +kernel)⟩
theorem lw_p31 : lw_okq (⟨"ApplauseTalliesModel", "owes", "(I)I"⟩, 12) := ⟨⟨by decide +kernel, by decide +kernel⟩, List.mem_of_getElem? (i := 643) (by decide +kernel), List.mem_of_getElem? (i := 825) (by decide +kernel), List.mem_of_getElem? (i := 826) (by decide +kernel)⟩
def lw_privs_2 : List (MethodName × Nat) := [(⟨"ApplauseTalliesModel", "doPay", "(I)I"⟩, 12), (⟨"ApplauseTalliesModel", "those", "(ZI)I"⟩, 12), (⟨"ApplauseTalliesModel", "doEnds", "(I)I"⟩, 12), (⟨"ApplauseTalliesModel", "end", "(I)I"⟩, 12), (⟨"ApplauseTalliesModel", "doClap", "(I)I"⟩, 12), (⟨"ApplauseTalliesModel", "countClap", "(I)V"⟩, 12), (⟨"ApplauseTalliesModel", "owe", "(I)V"⟩, 12), (⟨"ApplauseTalliesModel", "countLapse", "(I)V"⟩, 12), (⟨"ApplauseTalliesModel", "doPass", "(I)I"⟩, 12), (⟨"ApplauseTalliesModel", "passSecond", "()V"⟩, 12), (⟨"ApplauseTalliesModel", "decayed", "(I)I"⟩, 12), (⟨"ApplauseTalliesModel", "owedFor", "(I)I"⟩, 12), (⟨"ApplauseTalliesModel", "drop", "(I)V"⟩, 12), (⟨"ApplauseTalliesModel", "doPlay", "(I)I"⟩, 12), (⟨"ApplauseTalliesModel", "earliest", "(I)I"⟩, 12), (⟨"ApplauseTalliesModel", "owes", "(I)I"⟩, 12)]
theorem lw_r2 : ∀ q ∈ lw_privs_2, lw_okq q := List.forall_mem_cons.mpr ⟨lw_p16, List.forall_mem_cons.mpr ⟨lw_p17, List.forall_mem_cons.mpr ⟨lw_p18, List.forall_mem_cons.mpr ⟨lw_p19, List.forall_mem_cons.mpr ⟨lw_p20, List.forall_mem_cons.mpr ⟨lw_p21, List.forall_mem_cons.mpr ⟨lw_p22, List.forall_mem_cons.mpr ⟨lw_p23, List.forall_mem_cons.mpr ⟨lw_p24, List.forall_mem_cons.mpr ⟨lw_p25, List.forall_mem_cons.mpr ⟨lw_p26, List.forall_mem_cons.mpr ⟨lw_p27, List.forall_mem_cons.mpr ⟨lw_p28, List.forall_mem_cons.mpr ⟨lw_p29, List.forall_mem_cons.mpr ⟨lw_p30, List.forall_mem_cons.mpr ⟨lw_p31, fun _ h => absurd h List.not_mem_nil⟩⟩⟩⟩⟩⟩⟩⟩⟩⟩⟩⟩⟩⟩⟩⟩
theorem lw_p32 : lw_okq (⟨"ApplauseTalliesModel", "doCall", "()I"⟩, 12) := ⟨⟨by decide +kernel, by decide +kernel⟩, List.mem_of_getElem? (i := 643) (by decide +kernel), List.mem_of_getElem? (i := 833) (by decide +kernel), List.mem_of_getElem? (i := 834) (by decide +kernel)⟩
theorem lw_p33 : lw_okq (⟨"ApplauseTalliesModel", "doNight", "()I"⟩, 12) := ⟨⟨by decide +kernel, by decide +kernel⟩, List.mem_of_getElem? (i := 643) (by decide +kernel), List.mem_of_getElem? (i := 841) (by decide +kernel), List.mem_of_getElem? (i := 842) (by decide +kernel)⟩
theorem lw_p34 : lw_okq (⟨"ApplauseTalliesModel", "keepRecord", "()V"⟩, 12) := ⟨⟨by decide +kernel, by decide +kernel⟩, List.mem_of_getElem? (i := 643) (by decide +kernel), List.mem_of_getElem? (i := 845) (by decide +kernel), List.mem_of_getElem? (i := 846) (by decide +kernel)⟩
theorem lw_p35 : lw_okq (⟨"ApplauseTalliesModel", "writeSign", "(I)V"⟩, 12) := ⟨⟨by decide +kernel, by decide +kernel⟩, List.mem_of_getElem? (i := 643) (by decide +kernel), List.mem_of_getElem? (i := 853) (by decide +kernel), List.mem_of_getElem? (i := 854) (by decide +kernel)⟩
theorem lw_p36 : lw_okq (⟨"ApplauseTalliesModel", "writeNumber", "(I)V"⟩, 12) := ⟨⟨by decide +kernel, by decide +kernel⟩, List.mem_of_getElem? (i := 643) (by decide +kernel), List.mem_of_getElem? (i := 857) (by decide +kernel), List.mem_of_getElem? (i := 858) (by decide +kernel)⟩
theorem lw_p37 : lw_okq (⟨"ApplauseTalliesModel", "ofPerformer", "(II)I"⟩, 12) := ⟨⟨by decide +kernel, by decide +kernel⟩, List.mem_of_getElem? (i := 643) (by decide +kernel), List.mem_of_getElem? (i := 869) (by decide +kernel), List.mem_of_getElem? (i := 870) (by decide +kernel)⟩
theorem lw_p38 : lw_okq (⟨"ApplauseTalliesModel", "soFar", "(I)I"⟩, 12) := ⟨⟨by decide +kernel, by decide +kernel⟩, List.mem_of_getElem? (i := 643) (by decide +kernel), List.mem_of_getElem? (i := 893) (by decide +kernel), List.mem_of_getElem? (i := 894) (by decide +kernel)⟩
theorem lw_p39 : lw_okq (⟨"ApplauseTalliesModel", "findFault", "()I"⟩, 12) := ⟨⟨by decide +kernel, by decide +kernel⟩, List.mem_of_getElem? (i := 643) (by decide +kernel), List.mem_of_getElem? (i := 936) (by decide +kernel), List.mem_of_getElem? (i := 937) (by decide +kernel)⟩
theorem lw_p40 : lw_okq (⟨"ApplauseTalliesModel", "readsOrder", "()Z"⟩, 12) := ⟨⟨by decide +kernel, by decide +kernel⟩, List.mem_of_getElem? (i := 643) (by decide +kernel), List.mem_of_getElem? (i := 940) (by decide +kernel), List.mem_of_getElem? (i := 941) (by decide +kernel)⟩
theorem lw_p41 : lw_okq (⟨"ApplauseTalliesModel", "code", "()I"⟩, 12) := ⟨⟨by decide +kernel, by decide +kernel⟩, List.mem_of_getElem? (i := 643) (by decide +kernel), List.mem_of_getElem? (i := 944) (by decide +kernel), List.mem_of_getElem? (i := 945) (by decide +kernel)⟩
theorem lw_p42 : lw_okq (⟨"ApplauseTalliesModel", "takeDigit", "()I"⟩, 12) := ⟨⟨by decide +kernel, by decide +kernel⟩, List.mem_of_getElem? (i := 643) (by decide +kernel), List.mem_of_getElem? (i := 948) (by decide +kernel), List.mem_of_getElem? (i := 949) (by decide +kernel)⟩
theorem lw_p43 : lw_okq (⟨"ApplauseTalliesModel", "readNumber", "()I"⟩, 12) := ⟨⟨by decide +kernel, by decide +kernel⟩, List.mem_of_getElem? (i := 643) (by decide +kernel), List.mem_of_getElem? (i := 952) (by decide +kernel), List.mem_of_getElem? (i := 953) (by decide +kernel)⟩
theorem lw_p44 : lw_okq (⟨"ApplauseTalliesModel", "readsClaps", "()Z"⟩, 12) := ⟨⟨by decide +kernel, by decide +kernel⟩, List.mem_of_getElem? (i := 643) (by decide +kernel), List.mem_of_getElem? (i := 956) (by decide +kernel), List.mem_of_getElem? (i := 957) (by decide +kernel)⟩
theorem lw_p45 : lw_okq (⟨"ApplauseTalliesModel", "takes", "(I)Z"⟩, 12) := ⟨⟨by decide +kernel, by decide +kernel⟩, List.mem_of_getElem? (i := 643) (by decide +kernel), List.mem_of_getElem? (i := 960) (by decide +kernel), List.mem_of_getElem? (i := 961) (by decide +kernel)⟩
theorem lw_p46 : lw_okq (⟨"ApplauseTalliesModel", "doesOrder", "()I"⟩, 12) := ⟨⟨by decide +kernel, by decide +kernel⟩, List.mem_of_getElem? (i := 643) (by decide +kernel), List.mem_of_getElem? (i := 968) (by decide +kernel), List.mem_of_getElem? (i := 969) (by decide +kernel)⟩
def lw_privs_3 : List (MethodName × Nat) := [(⟨"ApplauseTalliesModel", "doCall", "()I"⟩, 12), (⟨"ApplauseTalliesModel", "doNight", "()I"⟩, 12), (⟨"ApplauseTalliesModel", "keepRecord", "()V"⟩, 12), (⟨"ApplauseTalliesModel", "writeSign", "(I)V"⟩, 12), (⟨"ApplauseTalliesModel", "writeNumber", "(I)V"⟩, 12), (⟨"ApplauseTalliesModel", "ofPerformer", "(II)I"⟩, 12), (⟨"ApplauseTalliesModel", "soFar", "(I)I"⟩, 12), (⟨"ApplauseTalliesModel", "findFault", "()I"⟩, 12), (⟨"ApplauseTalliesModel", "readsOrder", "()Z"⟩, 12), (⟨"ApplauseTalliesModel", "code", "()I"⟩, 12), (⟨"ApplauseTalliesModel", "takeDigit", "()I"⟩, 12), (⟨"ApplauseTalliesModel", "readNumber", "()I"⟩, 12), (⟨"ApplauseTalliesModel", "readsClaps", "()Z"⟩, 12), (⟨"ApplauseTalliesModel", "takes", "(I)Z"⟩, 12), (⟨"ApplauseTalliesModel", "doesOrder", "()I"⟩, 12)]
theorem lw_r3 : ∀ q ∈ lw_privs_3, lw_okq q := List.forall_mem_cons.mpr ⟨lw_p32, List.forall_mem_cons.mpr ⟨lw_p33, List.forall_mem_cons.mpr ⟨lw_p34, List.forall_mem_cons.mpr ⟨lw_p35, List.forall_mem_cons.mpr ⟨lw_p36, List.forall_mem_cons.mpr ⟨lw_p37, List.forall_mem_cons.mpr ⟨lw_p38, List.forall_mem_cons.mpr ⟨lw_p39, List.forall_mem_cons.mpr ⟨lw_p40, List.forall_mem_cons.mpr ⟨lw_p41, List.forall_mem_cons.mpr ⟨lw_p42, List.forall_mem_cons.mpr ⟨lw_p43, List.forall_mem_cons.mpr ⟨lw_p44, List.forall_mem_cons.mpr ⟨lw_p45, List.forall_mem_cons.mpr ⟨lw_p46, fun _ h => absurd h List.not_mem_nil⟩⟩⟩⟩⟩⟩⟩⟩⟩⟩⟩⟩⟩⟩⟩
def lw_privs : List (MethodName × Nat) := lw_privs_1 ++ (lw_privs_2 ++ (lw_privs_3))
def lw_tbl : List Cond := k2_sels lw_privs ++ tables_1
theorem lw_privs_ok : ∀ q ∈ lw_privs, lw_okq q := by
  show ∀ q ∈ lw_privs_1 ++ (lw_privs_2 ++ (lw_privs_3)), lw_okq q
  exact List.forall_mem_append.mpr ⟨lw_r1, List.forall_mem_append.mpr ⟨lw_r2, lw_r3⟩⟩

/-! ===== BEGIN words of one list among another's, by their places ===== -/
theorem goodIn_r {big : List Cond} (ws : List Cond) (ps : List Nat) (hp : ws = ps.filterMap (fun i => big[i]?)) (h : ws.all goodWord = true) : GoodIn big ws := by
  intro w hw
  have h1 := List.all_eq_true.mp h w hw
  rw [hp] at hw
  obtain ⟨i, -, hi⟩ := List.mem_filterMap.mp hw
  have hm : w ∈ big := by first | exact List.mem_of_getElem? hi | exact List.getElem?_mem hi
  exact ⟨hm, good_of_word h1⟩
theorem goodIn_app {big a b : List Cond} (ha : GoodIn big a) (hb : GoodIn big b) : GoodIn big (a ++ b) := fun w h => (List.mem_append.mp h).elim (ha w) (hb w)
theorem goodIn_ca {big a b : List Cond} {c : Cond} (ha : GoodIn big (c :: a)) (hb : GoodIn big b) : GoodIn big (c :: (a ++ b)) := fun w h => (List.mem_cons.mp h).elim (fun e => ha w (List.mem_cons.mpr (Or.inl e))) (fun h => (List.mem_append.mp h).elim (fun h => ha w (List.mem_cons.mpr (Or.inr h))) (hb w))
theorem goodIn_sub {big ws : List Cond} (hm : ∀ w ∈ ws, w ∈ big) (h : ws.all goodWord = true) : GoodIn big ws := fun w hw => ⟨hm w hw, good_of_word (List.all_eq_true.mp h w hw)⟩
/-! ===== END ===== -/

def RX0 : String := "ApplauseTallies$Encores"
def TX0 : u_T := fun k => match k with
  | 0 => ("ApplauseTallies$Encores", "owers", "LApplauseTallies$Row;", true)
  | 1 => ("ApplauseTallies$Encores", "since", "LApplauseTallies$Row;", true)
  | 2 => ("ApplauseTallies$Encores", "played", "LApplauseTallies$Row;", true)
  | 3 => ("ApplauseTallies$Encores", "lapsed", "LApplauseTallies$Row;", true)
  | 4 => ("ApplauseTallies$Encores", "pieces", "LApplauseTallies$Row;", true)
  | _ => ("ApplauseTallies$Encores", "owedCount", "I", false)
def tyX0 : Nat → FieldType := fun k => match k with
  | 0 => .object "ApplauseTallies$Row"
  | 1 => .object "ApplauseTallies$Row"
  | 2 => .object "ApplauseTallies$Row"
  | 3 => .object "ApplauseTallies$Row"
  | 4 => .object "ApplauseTallies$Row"
  | _ => .int
abbrev wsX00 : List Cond := u_ws RX0 TX0 6
theorem nmX0 : ∀ a, a < 6 → ∀ b, b < 6 → a ≠ b → (TX0 a).2.1 ≠ (TX0 b).2.1 := by decide +kernel
theorem tyX0_ok : ∀ k, k < 6 → parseFieldDescriptor (TX0 k).2.2.1 = some (tyX0 k) := by decide +kernel
abbrev cX0_init : ByteArray := prog_2_method_1_code
def yX0_init : MethodName := ⟨RX0, "<init>", "()V"⟩
abbrev cX0_copyFrom : ByteArray := prog_2_method_2_code
def yX0_copyFrom : MethodName := ⟨RX0, "copyFrom", "(LApplauseTallies$Encores;)V"⟩
abbrev cX0_owe : ByteArray := prog_2_method_3_code
def yX0_owe : MethodName := ⟨RX0, "owe", "(II)Z"⟩
abbrev cX0_lapseSince : ByteArray := prog_2_method_4_code
def yX0_lapseSince : MethodName := ⟨RX0, "lapseSince", "(I)I"⟩
abbrev cX0_earliestOf : ByteArray := prog_2_method_5_code
def yX0_earliestOf : MethodName := ⟨RX0, "earliestOf", "(I)I"⟩
abbrev cX0_owedBy : ByteArray := prog_2_method_6_code
def yX0_owedBy : MethodName := ⟨RX0, "owedBy", "(I)I"⟩
abbrev cX0_playEarliestOf : ByteArray := prog_2_method_7_code
def yX0_playEarliestOf : MethodName := ⟨RX0, "playEarliestOf", "(I)Z"⟩
abbrev cX0_aboutPerformer : ByteArray := prog_2_method_8_code
def yX0_aboutPerformer : MethodName := ⟨RX0, "aboutPerformer", "(II)I"⟩
abbrev cX0_aboutOwed : ByteArray := prog_2_method_9_code
def yX0_aboutOwed : MethodName := ⟨RX0, "aboutOwed", "(III)I"⟩
def RX1 : String := "ApplauseTallies$History"
def TX1 : u_T := fun k => match k with
  | 0 => ("ApplauseTallies$History", "states", "[LApplauseTallies$House;", true)
  | 1 => ("ApplauseTallies$History", "next", "I", false)
  | _ => ("ApplauseTallies$History", "kept", "I", false)
def tyX1 : Nat → FieldType := fun k => match k with
  | 0 => .array (.object "ApplauseTallies$House")
  | 1 => .int
  | _ => .int
abbrev wsX10 : List Cond := u_ws RX1 TX1 3
theorem nmX1 : ∀ a, a < 3 → ∀ b, b < 3 → a ≠ b → (TX1 a).2.1 ≠ (TX1 b).2.1 := by decide +kernel
theorem tyX1_ok : ∀ k, k < 3 → parseFieldDescriptor (TX1 k).2.2.1 = some (tyX1 k) := by decide +kernel
abbrev cX1_init : ByteArray := prog_3_method_1_code
def yX1_init : MethodName := ⟨RX1, "<init>", "()V"⟩
abbrev cX1_kept : ByteArray := prog_3_method_2_code
def yX1_kept : MethodName := ⟨RX1, "kept", "()I"⟩
abbrev cX1_stateAt : ByteArray := prog_3_method_3_code
def yX1_stateAt : MethodName := ⟨RX1, "stateAt", "(I)LApplauseTallies$House;"⟩
abbrev cX1_setAside : ByteArray := prog_3_method_4_code
def yX1_setAside : MethodName := ⟨RX1, "setAside", "(LApplauseTallies$House;)V"⟩
abbrev cX1_keepUnlessError : ByteArray := prog_3_method_5_code
def yX1_keepUnlessError : MethodName := ⟨RX1, "keepUnlessError", "(I)I"⟩
abbrev cX1_takeBack : ByteArray := prog_3_method_6_code
def yX1_takeBack : MethodName := ⟨RX1, "takeBack", "(LApplauseTallies$House;)I"⟩
def RX2 : String := "ApplauseTallies$House"
def TX2 : u_T := fun k => match k with
  | 0 => ("ApplauseTallies$House", "settings", "LApplauseTallies$Row;", true)
  | 1 => ("ApplauseTallies$House", "seats", "LApplauseTallies$Seats;", true)
  | 2 => ("ApplauseTallies$House", "encores", "LApplauseTallies$Encores;", true)
  | 3 => ("ApplauseTallies$House", "tonight", "LApplauseTallies$Row;", true)
  | 4 => ("ApplauseTallies$House", "records", "LApplauseTallies$Row;", true)
  | 5 => ("ApplauseTallies$House", "applause", "I", false)
  | 6 => ("ApplauseTallies$House", "time", "I", false)
  | 7 => ("ApplauseTallies$House", "nights", "I", false)
  | 8 => ("ApplauseTallies$House", "pieceBy", "I", false)
  | 9 => ("ApplauseTallies$House", "pieceEnd", "I", false)
  | _ => ("ApplauseTallies$House", "encoreCame", "Z", false)
def tyX2 : Nat → FieldType := fun k => match k with
  | 0 => .object "ApplauseTallies$Row"
  | 1 => .object "ApplauseTallies$Seats"
  | 2 => .object "ApplauseTallies$Encores"
  | 3 => .object "ApplauseTallies$Row"
  | 4 => .object "ApplauseTallies$Row"
  | 5 => .int
  | 6 => .int
  | 7 => .int
  | 8 => .int
  | 9 => .int
  | _ => .boolean
abbrev wsX20 : List Cond := u_ws RX2 TX2 11
theorem nmX2 : ∀ a, a < 11 → ∀ b, b < 11 → a ≠ b → (TX2 a).2.1 ≠ (TX2 b).2.1 := by decide +kernel
theorem tyX2_ok : ∀ k, k < 11 → parseFieldDescriptor (TX2 k).2.2.1 = some (tyX2 k) := by decide +kernel
abbrev cX2_init : ByteArray := prog_4_method_1_code
def yX2_init : MethodName := ⟨RX2, "<init>", "()V"⟩
abbrev cX2_copyFrom : ByteArray := prog_4_method_2_code
def yX2_copyFrom : MethodName := ⟨RX2, "copyFrom", "(LApplauseTallies$House;)V"⟩
abbrev cX2_changeSetting : ByteArray := prog_4_method_3_code
def yX2_changeSetting : MethodName := ⟨RX2, "changeSetting", "(II)I"⟩
abbrev cX2_changeLoudness : ByteArray := prog_4_method_4_code
def yX2_changeLoudness : MethodName := ⟨RX2, "changeLoudness", "(II)I"⟩
abbrev cX2_switchPay : ByteArray := prog_4_method_5_code
def yX2_switchPay : MethodName := ⟨RX2, "switchPay", "(I)I"⟩
abbrev cX2_endPiece : ByteArray := prog_4_method_6_code
def yX2_endPiece : MethodName := ⟨RX2, "endPiece", "(I)I"⟩
abbrev cX2_beginApplause : ByteArray := prog_4_method_7_code
def yX2_beginApplause : MethodName := ⟨RX2, "beginApplause", "(I)V"⟩
abbrev cX2_takeClap : ByteArray := prog_4_method_8_code
def yX2_takeClap : MethodName := ⟨RX2, "takeClap", "(I)I"⟩
abbrev cX2_bringEncore : ByteArray := prog_4_method_9_code
def yX2_bringEncore : MethodName := ⟨RX2, "bringEncore", "()V"⟩
abbrev cX2_letPass : ByteArray := prog_4_method_10_code
def yX2_letPass : MethodName := ⟨RX2, "letPass", "(I)I"⟩
abbrev cX2_playEncore : ByteArray := prog_4_method_11_code
def yX2_playEncore : MethodName := ⟨RX2, "playEncore", "(I)I"⟩
abbrev cX2_takeCurtain : ByteArray := prog_4_method_12_code
def yX2_takeCurtain : MethodName := ⟨RX2, "takeCurtain", "()I"⟩
abbrev cX2_endNight : ByteArray := prog_4_method_13_code
def yX2_endNight : MethodName := ⟨RX2, "endNight", "()I"⟩
abbrev cX2_recordPlace : ByteArray := prog_4_method_14_code
def yX2_recordPlace : MethodName := ⟨RX2, "recordPlace", "(II)I"⟩
abbrev cX2_writeBill : ByteArray := prog_4_method_15_code
def yX2_writeBill : MethodName := ⟨RX2, "writeBill", "(LApplauseTallies$Pad;)V"⟩
abbrev cX2_aboutSeat : ByteArray := prog_4_method_16_code
def yX2_aboutSeat : MethodName := ⟨RX2, "aboutSeat", "(II)I"⟩
abbrev cX2_suspectedNow : ByteArray := prog_4_method_17_code
def yX2_suspectedNow : MethodName := ⟨RX2, "suspectedNow", "()I"⟩
abbrev cX2_recordOf : ByteArray := prog_4_method_18_code
def yX2_recordOf : MethodName := ⟨RX2, "recordOf", "(II)I"⟩
abbrev cX2_numberOf : ByteArray := prog_4_method_19_code
def yX2_numberOf : MethodName := ⟨RX2, "numberOf", "(I)I"⟩
abbrev cX2_secondsUntil : ByteArray := prog_4_method_20_code
def yX2_secondsUntil : MethodName := ⟨RX2, "secondsUntil", "(I)I"⟩
abbrev cX2_clapsUntilEncore : ByteArray := prog_4_method_21_code
def yX2_clapsUntilEncore : MethodName := ⟨RX2, "clapsUntilEncore", "(I)I"⟩
abbrev cX2_secondsUntilLapse : ByteArray := prog_4_method_22_code
def yX2_secondsUntilLapse : MethodName := ⟨RX2, "secondsUntilLapse", "(I)I"⟩
abbrev cX2_curtainsLeft : ByteArray := prog_4_method_23_code
def yX2_curtainsLeft : MethodName := ⟨RX2, "curtainsLeft", "()I"⟩
def RX3 : String := "ApplauseTallies$OrderReader"
def TX3 : u_T := fun k => match k with
  | 0 => ("ApplauseTallies$OrderReader", "pad", "LApplauseTallies$Pad;", true)
  | 1 => ("ApplauseTallies$OrderReader", "place", "I", false)
  | 2 => ("ApplauseTallies$OrderReader", "kind", "I", false)
  | 3 => ("ApplauseTallies$OrderReader", "number", "I", false)
  | _ => ("ApplauseTallies$OrderReader", "times", "I", false)
def tyX3 : Nat → FieldType := fun k => match k with
  | 0 => .object "ApplauseTallies$Pad"
  | 1 => .int
  | 2 => .int
  | 3 => .int
  | _ => .int
abbrev wsX30 : List Cond := u_ws RX3 TX3 5
theorem nmX3 : ∀ a, a < 5 → ∀ b, b < 5 → a ≠ b → (TX3 a).2.1 ≠ (TX3 b).2.1 := by decide +kernel
theorem tyX3_ok : ∀ k, k < 5 → parseFieldDescriptor (TX3 k).2.2.1 = some (tyX3 k) := by decide +kernel
abbrev cX3_init : ByteArray := prog_5_method_1_code
def yX3_init : MethodName := ⟨RX3, "<init>", "(LApplauseTallies$Pad;)V"⟩
abbrev cX3_faultPlace : ByteArray := prog_5_method_2_code
def yX3_faultPlace : MethodName := ⟨RX3, "faultPlace", "()I"⟩
abbrev cX3_carryOutIn : ByteArray := prog_5_method_3_code
def yX3_carryOutIn : MethodName := ⟨RX3, "carryOutIn", "(LApplauseTallies$House;)I"⟩
abbrev cX3_carryOrderOutIn : ByteArray := prog_5_method_4_code
def yX3_carryOrderOutIn : MethodName := ⟨RX3, "carryOrderOutIn", "(LApplauseTallies$House;)I"⟩
abbrev cX3_readOrder : ByteArray := prog_5_method_5_code
def yX3_readOrder : MethodName := ⟨RX3, "readOrder", "()Z"⟩
abbrev cX3_readTimes : ByteArray := prog_5_method_6_code
def yX3_readTimes : MethodName := ⟨RX3, "readTimes", "()Z"⟩
abbrev cX3_readSign : ByteArray := prog_5_method_7_code
def yX3_readSign : MethodName := ⟨RX3, "readSign", "(C)Z"⟩
abbrev cX3_readNumber : ByteArray := prog_5_method_8_code
def yX3_readNumber : MethodName := ⟨RX3, "readNumber", "(I)Z"⟩
abbrev cX3_digitHere : ByteArray := prog_5_method_9_code
def yX3_digitHere : MethodName := ⟨RX3, "digitHere", "()I"⟩
def RX4 : String := "ApplauseTallies$Pad"
def TX4 : u_T := fun k => match k with
  | 0 => ("ApplauseTallies$Pad", "codes", "[I", true)
  | _ => ("ApplauseTallies$Pad", "length", "I", false)
def tyX4 : Nat → FieldType := fun k => match k with
  | 0 => .array .int
  | _ => .int
abbrev wsX40 : List Cond := u_ws RX4 TX4 2
theorem nmX4 : ∀ a, a < 2 → ∀ b, b < 2 → a ≠ b → (TX4 a).2.1 ≠ (TX4 b).2.1 := by decide +kernel
theorem tyX4_ok : ∀ k, k < 2 → parseFieldDescriptor (TX4 k).2.2.1 = some (tyX4 k) := by decide +kernel
abbrev cX4_init : ByteArray := prog_6_method_1_code
def yX4_init : MethodName := ⟨RX4, "<init>", "()V"⟩
abbrev cX4_length : ByteArray := prog_6_method_2_code
def yX4_length : MethodName := ⟨RX4, "length", "()I"⟩
abbrev cX4_has : ByteArray := prog_6_method_3_code
def yX4_has : MethodName := ⟨RX4, "has", "(I)Z"⟩
abbrev cX4_codeAt : ByteArray := prog_6_method_4_code
def yX4_codeAt : MethodName := ⟨RX4, "codeAt", "(I)I"⟩
abbrev cX4_clear : ByteArray := prog_6_method_5_code
def yX4_clear : MethodName := ⟨RX4, "clear", "()V"⟩
abbrev cX4_append : ByteArray := prog_6_method_6_code
def yX4_append : MethodName := ⟨RX4, "append", "(I)V"⟩
abbrev cX4_appendPart : ByteArray := prog_6_method_7_code
def yX4_appendPart : MethodName := ⟨RX4, "appendPart", "(CI)V"⟩
abbrev cX4_appendAll : ByteArray := prog_6_method_8_code
def yX4_appendAll : MethodName := ⟨RX4, "appendAll", "(J)I"⟩
abbrev cX4_amountOf : ByteArray := prog_6_method_9_code
def yX4_amountOf : MethodName := ⟨RX4, "amountOf", "(J)I"⟩
def RX5 : String := "ApplauseTallies$Row"
def TX5 : u_T := fun k => match k with
  | _ => ("ApplauseTallies$Row", "cells", "[I", true)
def tyX5 : Nat → FieldType := fun k => match k with
  | _ => .array .int
abbrev wsX50 : List Cond := u_ws RX5 TX5 1
theorem nmX5 : ∀ a, a < 1 → ∀ b, b < 1 → a ≠ b → (TX5 a).2.1 ≠ (TX5 b).2.1 := by decide +kernel
theorem tyX5_ok : ∀ k, k < 1 → parseFieldDescriptor (TX5 k).2.2.1 = some (tyX5 k) := by decide +kernel
abbrev cX5_init : ByteArray := prog_7_method_1_code
def yX5_init : MethodName := ⟨RX5, "<init>", "(I)V"⟩
abbrev cX5_at : ByteArray := prog_7_method_2_code
def yX5_at : MethodName := ⟨RX5, "at", "(I)I"⟩
abbrev cX5_store : ByteArray := prog_7_method_3_code
def yX5_store : MethodName := ⟨RX5, "store", "(II)V"⟩
abbrev cX5_add : ByteArray := prog_7_method_4_code
def yX5_add : MethodName := ⟨RX5, "add", "(II)V"⟩
abbrev cX5_fill : ByteArray := prog_7_method_5_code
def yX5_fill : MethodName := ⟨RX5, "fill", "(I)V"⟩
abbrev cX5_sum : ByteArray := prog_7_method_6_code
def yX5_sum : MethodName := ⟨RX5, "sum", "()I"⟩
abbrev cX5_copyFrom : ByteArray := prog_7_method_7_code
def yX5_copyFrom : MethodName := ⟨RX5, "copyFrom", "(LApplauseTallies$Row;)V"⟩
def RX6 : String := "ApplauseTallies$Seats"
def TX6 : u_T := fun k => match k with
  | 0 => ("ApplauseTallies$Seats", "loudness", "LApplauseTallies$Row;", true)
  | 1 => ("ApplauseTallies$Seats", "early", "LApplauseTallies$Row;", true)
  | 2 => ("ApplauseTallies$Seats", "clapsTonight", "LApplauseTallies$Row;", true)
  | 3 => ("ApplauseTallies$Seats", "clapsSoFar", "LApplauseTallies$Row;", true)
  | 4 => ("ApplauseTallies$Seats", "clappers", "LApplauseTallies$Row;", true)
  | 5 => ("ApplauseTallies$Seats", "clapperCount", "I", false)
  | 6 => ("ApplauseTallies$Seats", "paid", "I", false)
  | _ => ("ApplauseTallies$Seats", "clappedForPiece", "I", false)
def tyX6 : Nat → FieldType := fun k => match k with
  | 0 => .object "ApplauseTallies$Row"
  | 1 => .object "ApplauseTallies$Row"
  | 2 => .object "ApplauseTallies$Row"
  | 3 => .object "ApplauseTallies$Row"
  | 4 => .object "ApplauseTallies$Row"
  | 5 => .int
  | 6 => .int
  | _ => .int
abbrev wsX60 : List Cond := u_ws RX6 TX6 8
theorem nmX6 : ∀ a, a < 8 → ∀ b, b < 8 → a ≠ b → (TX6 a).2.1 ≠ (TX6 b).2.1 := by decide +kernel
theorem tyX6_ok : ∀ k, k < 8 → parseFieldDescriptor (TX6 k).2.2.1 = some (tyX6 k) := by decide +kernel
abbrev cX6_init : ByteArray := prog_8_method_1_code
def yX6_init : MethodName := ⟨RX6, "<init>", "()V"⟩
abbrev cX6_copyFrom : ByteArray := prog_8_method_2_code
def yX6_copyFrom : MethodName := ⟨RX6, "copyFrom", "(LApplauseTallies$Seats;)V"⟩
abbrev cX6_hasClapped : ByteArray := prog_8_method_3_code
def yX6_hasClapped : MethodName := ⟨RX6, "hasClapped", "(I)Z"⟩
abbrev cX6_beginPiece : ByteArray := prog_8_method_4_code
def yX6_beginPiece : MethodName := ⟨RX6, "beginPiece", "()V"⟩
abbrev cX6_beginNight : ByteArray := prog_8_method_5_code
def yX6_beginNight : MethodName := ⟨RX6, "beginNight", "()V"⟩
abbrev cX6_addClap : ByteArray := prog_8_method_6_code
def yX6_addClap : MethodName := ⟨RX6, "addClap", "(IZ)V"⟩
abbrev cX6_suspected : ByteArray := prog_8_method_7_code
def yX6_suspected : MethodName := ⟨RX6, "suspected", "(I)I"⟩
abbrev cX6_clapperAt : ByteArray := prog_8_method_8_code
def yX6_clapperAt : MethodName := ⟨RX6, "clapperAt", "(I)I"⟩
def RX7 : String := "ApplauseTallies"
def TX7 : u_T := fun k => match k with
  | 0 => ("ApplauseTallies", "house", "LApplauseTallies$House;", true)
  | 1 => ("ApplauseTallies", "history", "LApplauseTallies$History;", true)
  | 2 => ("ApplauseTallies", "slots", "[LApplauseTallies$House;", true)
  | 3 => ("ApplauseTallies", "pad", "LApplauseTallies$Pad;", true)
  | _ => ("ApplauseTallies", "reader", "LApplauseTallies$OrderReader;", true)
def tyX7 : Nat → FieldType := fun k => match k with
  | 0 => .object "ApplauseTallies$House"
  | 1 => .object "ApplauseTallies$History"
  | 2 => .array (.object "ApplauseTallies$House")
  | 3 => .object "ApplauseTallies$Pad"
  | _ => .object "ApplauseTallies$OrderReader"
abbrev wsX70 : List Cond := u_ws RX7 TX7 5
theorem nmX7 : ∀ a, a < 5 → ∀ b, b < 5 → a ≠ b → (TX7 a).2.1 ≠ (TX7 b).2.1 := by decide +kernel
theorem tyX7_ok : ∀ k, k < 5 → parseFieldDescriptor (TX7 k).2.2.1 = some (tyX7 k) := by decide +kernel
abbrev cX7_init : ByteArray := prog_1_method_1_code
def yX7_init : MethodName := ⟨RX7, "<init>", "()V"⟩
abbrev cX7_set : ByteArray := prog_1_method_2_code
def yX7_set : MethodName := ⟨RX7, "set", "(II)I"⟩
abbrev cX7_loud : ByteArray := prog_1_method_3_code
def yX7_loud : MethodName := ⟨RX7, "loud", "(II)I"⟩
abbrev cX7_pay : ByteArray := prog_1_method_4_code
def yX7_pay : MethodName := ⟨RX7, "pay", "(I)I"⟩
abbrev cX7_ends : ByteArray := prog_1_method_5_code
def yX7_ends : MethodName := ⟨RX7, "ends", "(I)I"⟩
abbrev cX7_clap : ByteArray := prog_1_method_6_code
def yX7_clap : MethodName := ⟨RX7, "clap", "(I)I"⟩
abbrev cX7_pass : ByteArray := prog_1_method_7_code
def yX7_pass : MethodName := ⟨RX7, "pass", "(I)I"⟩
abbrev cX7_play : ByteArray := prog_1_method_8_code
def yX7_play : MethodName := ⟨RX7, "play", "(I)I"⟩
abbrev cX7_call : ByteArray := prog_1_method_9_code
def yX7_call : MethodName := ⟨RX7, "call", "()I"⟩
abbrev cX7_night : ByteArray := prog_1_method_10_code
def yX7_night : MethodName := ⟨RX7, "night", "()I"⟩
abbrev cX7_write : ByteArray := prog_1_method_11_code
def yX7_write : MethodName := ⟨RX7, "write", "()I"⟩
abbrev cX7_of : ByteArray := prog_1_method_12_code
def yX7_of : MethodName := ⟨RX7, "of", "(II)I"⟩
abbrev cX7_performer : ByteArray := prog_1_method_13_code
def yX7_performer : MethodName := ⟨RX7, "performer", "(II)I"⟩
abbrev cX7_owed : ByteArray := prog_1_method_14_code
def yX7_owed : MethodName := ⟨RX7, "owed", "(II)I"⟩
abbrev cX7_clapper : ByteArray := prog_1_method_15_code
def yX7_clapper : MethodName := ⟨RX7, "clapper", "(I)I"⟩
abbrev cX7_record : ByteArray := prog_1_method_16_code
def yX7_record : MethodName := ⟨RX7, "record", "(II)I"⟩
abbrev cX7_sign : ByteArray := prog_1_method_17_code
def yX7_sign : MethodName := ⟨RX7, "sign", "(I)I"⟩
abbrev cX7_count : ByteArray := prog_1_method_18_code
def yX7_count : MethodName := ⟨RX7, "count", "(I)I"⟩
abbrev cX7_quietIn : ByteArray := prog_1_method_19_code
def yX7_quietIn : MethodName := ⟨RX7, "quietIn", "(I)I"⟩
abbrev cX7_clapsFor : ByteArray := prog_1_method_20_code
def yX7_clapsFor : MethodName := ⟨RX7, "clapsFor", "(I)I"⟩
abbrev cX7_lapsesIn : ByteArray := prog_1_method_21_code
def yX7_lapsesIn : MethodName := ⟨RX7, "lapsesIn", "(I)I"⟩
abbrev cX7_calls : ByteArray := prog_1_method_22_code
def yX7_calls : MethodName := ⟨RX7, "calls", "()I"⟩
abbrev cX7_ifFound : ByteArray := prog_1_method_23_code
def yX7_ifFound : MethodName := ⟨RX7, "ifFound", "(I)I"⟩
abbrev cX7_put : ByteArray := prog_1_method_24_code
def yX7_put : MethodName := ⟨RX7, "put", "(J)I"⟩
abbrev cX7_wipe : ByteArray := prog_1_method_25_code
def yX7_wipe : MethodName := ⟨RX7, "wipe", "()I"⟩
abbrev cX7_fault : ByteArray := prog_1_method_26_code
def yX7_fault : MethodName := ⟨RX7, "fault", "()I"⟩
abbrev cX7_carryOut : ByteArray := prog_1_method_27_code
def yX7_carryOut : MethodName := ⟨RX7, "carryOut", "()I"⟩
abbrev cX7_undo : ByteArray := prog_1_method_28_code
def yX7_undo : MethodName := ⟨RX7, "undo", "()I"⟩
abbrev cX7_save : ByteArray := prog_1_method_29_code
def yX7_save : MethodName := ⟨RX7, "save", "(I)I"⟩
abbrev cX7_restore : ByteArray := prog_1_method_30_code
def yX7_restore : MethodName := ⟨RX7, "restore", "(I)I"⟩
abbrev cX7_isSeat : ByteArray := prog_1_method_31_code
def yX7_isSeat : MethodName := ⟨RX7, "isSeat", "(I)Z"⟩
abbrev cX7_isPerformer : ByteArray := prog_1_method_32_code
def yX7_isPerformer : MethodName := ⟨RX7, "isPerformer", "(I)Z"⟩
abbrev cX7_afterSecond : ByteArray := prog_1_method_33_code
def yX7_afterSecond : MethodName := ⟨RX7, "afterSecond", "(II)I"⟩
def RX8 : String := "ApplauseTalliesModel"
def TX8 : u_T := fun k => match k with
  | 0 => ("ApplauseTalliesModel", "state", "[I", true)
  | 1 => ("ApplauseTalliesModel", "spare", "[I", true)
  | 2 => ("ApplauseTalliesModel", "history", "[I", true)
  | 3 => ("ApplauseTalliesModel", "states", "I", false)
  | 4 => ("ApplauseTalliesModel", "slots", "[I", true)
  | 5 => ("ApplauseTalliesModel", "isSaved", "[I", true)
  | 6 => ("ApplauseTalliesModel", "pad", "[I", true)
  | 7 => ("ApplauseTalliesModel", "length", "I", false)
  | 8 => ("ApplauseTalliesModel", "at", "I", false)
  | 9 => ("ApplauseTalliesModel", "sign", "I", false)
  | 10 => ("ApplauseTalliesModel", "first", "I", false)
  | _ => ("ApplauseTalliesModel", "times", "I", false)
def tyX8 : Nat → FieldType := fun k => match k with
  | 0 => .array .int
  | 1 => .array .int
  | 2 => .array .int
  | 3 => .int
  | 4 => .array .int
  | 5 => .array .int
  | 6 => .array .int
  | 7 => .int
  | 8 => .int
  | 9 => .int
  | 10 => .int
  | _ => .int
abbrev wsX80 : List Cond := u_ws RX8 TX8 12
theorem nmX8 : ∀ a, a < 12 → ∀ b, b < 12 → a ≠ b → (TX8 a).2.1 ≠ (TX8 b).2.1 := by decide +kernel
theorem tyX8_ok : ∀ k, k < 12 → parseFieldDescriptor (TX8 k).2.2.1 = some (tyX8 k) := by decide +kernel
abbrev cX8_init : ByteArray := prog_10_method_1_code
def yX8_init : MethodName := ⟨RX8, "<init>", "()V"⟩
abbrev cX8_within : ByteArray := prog_10_method_2_code
def yX8_within : MethodName := ⟨RX8, "within", "(III)Z"⟩
abbrev cX8_isSeat : ByteArray := prog_10_method_3_code
def yX8_isSeat : MethodName := ⟨RX8, "isSeat", "(I)Z"⟩
abbrev cX8_isPerformer : ByteArray := prog_10_method_4_code
def yX8_isPerformer : MethodName := ⟨RX8, "isPerformer", "(I)Z"⟩
abbrev cX8_seat : ByteArray := prog_10_method_5_code
def yX8_seat : MethodName := ⟨RX8, "seat", "(II)I"⟩
abbrev cX8_setSeat : ByteArray := prog_10_method_6_code
def yX8_setSeat : MethodName := ⟨RX8, "setSeat", "(III)V"⟩
abbrev cX8_ofPerformer : ByteArray := prog_10_method_7_code
def yX8_ofPerformer : MethodName := ⟨RX8, "ofPerformer", "(II)I"⟩
abbrev cX8_putAside : ByteArray := prog_10_method_8_code
def yX8_putAside : MethodName := ⟨RX8, "putAside", "()V"⟩
abbrev cX8_push : ByteArray := prog_10_method_9_code
def yX8_push : MethodName := ⟨RX8, "push", "()V"⟩
abbrev cX8_recorded : ByteArray := prog_10_method_10_code
def yX8_recorded : MethodName := ⟨RX8, "recorded", "(I)I"⟩
abbrev cX8_undo : ByteArray := prog_10_method_11_code
def yX8_undo : MethodName := ⟨RX8, "undo", "()I"⟩
abbrev cX8_isSlot : ByteArray := prog_10_method_12_code
def yX8_isSlot : MethodName := ⟨RX8, "isSlot", "(I)Z"⟩
abbrev cX8_save : ByteArray := prog_10_method_13_code
def yX8_save : MethodName := ⟨RX8, "save", "(I)I"⟩
abbrev cX8_restore : ByteArray := prog_10_method_14_code
def yX8_restore : MethodName := ⟨RX8, "restore", "(I)I"⟩
abbrev cX8_owedFor : ByteArray := prog_10_method_15_code
def yX8_owedFor : MethodName := ⟨RX8, "owedFor", "(I)I"⟩
abbrev cX8_countLapse : ByteArray := prog_10_method_16_code
def yX8_countLapse : MethodName := ⟨RX8, "countLapse", "(I)V"⟩
abbrev cX8_owe : ByteArray := prog_10_method_17_code
def yX8_owe : MethodName := ⟨RX8, "owe", "(I)V"⟩
abbrev cX8_drop : ByteArray := prog_10_method_18_code
def yX8_drop : MethodName := ⟨RX8, "drop", "(I)V"⟩
abbrev cX8_owes : ByteArray := prog_10_method_19_code
def yX8_owes : MethodName := ⟨RX8, "owes", "(I)I"⟩
abbrev cX8_earliest : ByteArray := prog_10_method_20_code
def yX8_earliest : MethodName := ⟨RX8, "earliest", "(I)I"⟩
abbrev cX8_end : ByteArray := prog_10_method_21_code
def yX8_end : MethodName := ⟨RX8, "end", "(I)I"⟩
abbrev cX8_doEnds : ByteArray := prog_10_method_22_code
def yX8_doEnds : MethodName := ⟨RX8, "doEnds", "(I)I"⟩
abbrev cX8_countClap : ByteArray := prog_10_method_23_code
def yX8_countClap : MethodName := ⟨RX8, "countClap", "(I)V"⟩
abbrev cX8_doClap : ByteArray := prog_10_method_24_code
def yX8_doClap : MethodName := ⟨RX8, "doClap", "(I)I"⟩
abbrev cX8_decayed : ByteArray := prog_10_method_25_code
def yX8_decayed : MethodName := ⟨RX8, "decayed", "(I)I"⟩
abbrev cX8_passSecond : ByteArray := prog_10_method_26_code
def yX8_passSecond : MethodName := ⟨RX8, "passSecond", "()V"⟩
abbrev cX8_doPass : ByteArray := prog_10_method_27_code
def yX8_doPass : MethodName := ⟨RX8, "doPass", "(I)I"⟩
abbrev cX8_doPlay : ByteArray := prog_10_method_28_code
def yX8_doPlay : MethodName := ⟨RX8, "doPlay", "(I)I"⟩
abbrev cX8_doCall : ByteArray := prog_10_method_29_code
def yX8_doCall : MethodName := ⟨RX8, "doCall", "()I"⟩
abbrev cX8_keepRecord : ByteArray := prog_10_method_30_code
def yX8_keepRecord : MethodName := ⟨RX8, "keepRecord", "()V"⟩
abbrev cX8_doNight : ByteArray := prog_10_method_31_code
def yX8_doNight : MethodName := ⟨RX8, "doNight", "()I"⟩
abbrev cX8_those : ByteArray := prog_10_method_32_code
def yX8_those : MethodName := ⟨RX8, "those", "(ZI)I"⟩
abbrev cX8_doPay : ByteArray := prog_10_method_33_code
def yX8_doPay : MethodName := ⟨RX8, "doPay", "(I)I"⟩
abbrev cX8_leastOf : ByteArray := prog_10_method_34_code
def yX8_leastOf : MethodName := ⟨RX8, "leastOf", "(I)I"⟩
abbrev cX8_mostOf : ByteArray := prog_10_method_35_code
def yX8_mostOf : MethodName := ⟨RX8, "mostOf", "(I)I"⟩
abbrev cX8_set : ByteArray := prog_10_method_36_code
def yX8_set : MethodName := ⟨RX8, "set", "(II)I"⟩
abbrev cX8_loud : ByteArray := prog_10_method_37_code
def yX8_loud : MethodName := ⟨RX8, "loud", "(II)I"⟩
abbrev cX8_pay : ByteArray := prog_10_method_38_code
def yX8_pay : MethodName := ⟨RX8, "pay", "(I)I"⟩
abbrev cX8_ends : ByteArray := prog_10_method_39_code
def yX8_ends : MethodName := ⟨RX8, "ends", "(I)I"⟩
abbrev cX8_clap : ByteArray := prog_10_method_40_code
def yX8_clap : MethodName := ⟨RX8, "clap", "(I)I"⟩
abbrev cX8_pass : ByteArray := prog_10_method_41_code
def yX8_pass : MethodName := ⟨RX8, "pass", "(I)I"⟩
abbrev cX8_play : ByteArray := prog_10_method_42_code
def yX8_play : MethodName := ⟨RX8, "play", "(I)I"⟩
abbrev cX8_call : ByteArray := prog_10_method_43_code
def yX8_call : MethodName := ⟨RX8, "call", "()I"⟩
abbrev cX8_night : ByteArray := prog_10_method_44_code
def yX8_night : MethodName := ⟨RX8, "night", "()I"⟩
abbrev cX8_writeSign : ByteArray := prog_10_method_45_code
def yX8_writeSign : MethodName := ⟨RX8, "writeSign", "(I)V"⟩
abbrev cX8_writeNumber : ByteArray := prog_10_method_46_code
def yX8_writeNumber : MethodName := ⟨RX8, "writeNumber", "(I)V"⟩
abbrev cX8_write : ByteArray := prog_10_method_47_code
def yX8_write : MethodName := ⟨RX8, "write", "()I"⟩
abbrev cX8_of : ByteArray := prog_10_method_48_code
def yX8_of : MethodName := ⟨RX8, "of", "(II)I"⟩
abbrev cX8_performer : ByteArray := prog_10_method_49_code
def yX8_performer : MethodName := ⟨RX8, "performer", "(II)I"⟩
abbrev cX8_owed : ByteArray := prog_10_method_50_code
def yX8_owed : MethodName := ⟨RX8, "owed", "(II)I"⟩
abbrev cX8_clapper : ByteArray := prog_10_method_51_code
def yX8_clapper : MethodName := ⟨RX8, "clapper", "(I)I"⟩
abbrev cX8_record : ByteArray := prog_10_method_52_code
def yX8_record : MethodName := ⟨RX8, "record", "(II)I"⟩
abbrev cX8_sign : ByteArray := prog_10_method_53_code
def yX8_sign : MethodName := ⟨RX8, "sign", "(I)I"⟩
abbrev cX8_soFar : ByteArray := prog_10_method_54_code
def yX8_soFar : MethodName := ⟨RX8, "soFar", "(I)I"⟩
abbrev cX8_count : ByteArray := prog_10_method_55_code
def yX8_count : MethodName := ⟨RX8, "count", "(I)I"⟩
abbrev cX8_quietIn : ByteArray := prog_10_method_56_code
def yX8_quietIn : MethodName := ⟨RX8, "quietIn", "(I)I"⟩
abbrev cX8_clapsFor : ByteArray := prog_10_method_57_code
def yX8_clapsFor : MethodName := ⟨RX8, "clapsFor", "(I)I"⟩
abbrev cX8_lapsesIn : ByteArray := prog_10_method_58_code
def yX8_lapsesIn : MethodName := ⟨RX8, "lapsesIn", "(I)I"⟩
abbrev cX8_calls : ByteArray := prog_10_method_59_code
def yX8_calls : MethodName := ⟨RX8, "calls", "()I"⟩
abbrev cX8_ifFound : ByteArray := prog_10_method_60_code
def yX8_ifFound : MethodName := ⟨RX8, "ifFound", "(I)I"⟩
abbrev cX8_isCharacter : ByteArray := prog_10_method_61_code
def yX8_isCharacter : MethodName := ⟨RX8, "isCharacter", "(I)Z"⟩
abbrev cX8_charactersIn : ByteArray := prog_10_method_62_code
def yX8_charactersIn : MethodName := ⟨RX8, "charactersIn", "(J)I"⟩
abbrev cX8_put : ByteArray := prog_10_method_63_code
def yX8_put : MethodName := ⟨RX8, "put", "(J)I"⟩
abbrev cX8_wipe : ByteArray := prog_10_method_64_code
def yX8_wipe : MethodName := ⟨RX8, "wipe", "()I"⟩
abbrev cX8_code : ByteArray := prog_10_method_65_code
def yX8_code : MethodName := ⟨RX8, "code", "()I"⟩
abbrev cX8_takes : ByteArray := prog_10_method_66_code
def yX8_takes : MethodName := ⟨RX8, "takes", "(I)Z"⟩
abbrev cX8_takeDigit : ByteArray := prog_10_method_67_code
def yX8_takeDigit : MethodName := ⟨RX8, "takeDigit", "()I"⟩
abbrev cX8_readNumber : ByteArray := prog_10_method_68_code
def yX8_readNumber : MethodName := ⟨RX8, "readNumber", "()I"⟩
abbrev cX8_readsClaps : ByteArray := prog_10_method_69_code
def yX8_readsClaps : MethodName := ⟨RX8, "readsClaps", "()Z"⟩
abbrev cX8_readsOrder : ByteArray := prog_10_method_70_code
def yX8_readsOrder : MethodName := ⟨RX8, "readsOrder", "()Z"⟩
abbrev cX8_findFault : ByteArray := prog_10_method_71_code
def yX8_findFault : MethodName := ⟨RX8, "findFault", "()I"⟩
abbrev cX8_fault : ByteArray := prog_10_method_72_code
def yX8_fault : MethodName := ⟨RX8, "fault", "()I"⟩
abbrev cX8_doesOrder : ByteArray := prog_10_method_73_code
def yX8_doesOrder : MethodName := ⟨RX8, "doesOrder", "()I"⟩
abbrev cX8_carryOut : ByteArray := prog_10_method_74_code
def yX8_carryOut : MethodName := ⟨RX8, "carryOut", "()I"⟩
def RJ9 : String := "java/lang/Math"
def TJ9 : u_T := fun k => match k with
  | _ => ("", "", "", false)
def tyJ9 : Nat → FieldType := fun k => match k with
  | _ => .int
abbrev wsJ90 : List Cond := u_ws RJ9 TJ9 0
theorem nmJ9 : ∀ a, a < 0 → ∀ b, b < 0 → a ≠ b → (TJ9 a).2.1 ≠ (TJ9 b).2.1 := by decide +kernel
theorem tyJ9_ok : ∀ k, k < 0 → parseFieldDescriptor (TJ9 k).2.2.1 = some (tyJ9 k) := by decide +kernel
abbrev cJ9_max_7cf53 : ByteArray := prog_11_method_65_code
def yJ9_max_7cf53 : MethodName := ⟨RJ9, "max", "(II)I"⟩
abbrev cJ9_min_7cf53 : ByteArray := prog_11_method_69_code
def yJ9_min_7cf53 : MethodName := ⟨RJ9, "min", "(II)I"⟩
def RJ10 : String := "java/lang/System"
def TJ10 : u_T := fun k => match k with
  | _ => ("", "", "", false)
def tyJ10 : Nat → FieldType := fun k => match k with
  | _ => .int
abbrev wsJ100 : List Cond := u_ws RJ10 TJ10 0
theorem nmJ10 : ∀ a, a < 0 → ∀ b, b < 0 → a ≠ b → (TJ10 a).2.1 ≠ (TJ10 b).2.1 := by decide +kernel
theorem tyJ10_ok : ∀ k, k < 0 → parseFieldDescriptor (TJ10 k).2.2.1 = some (tyJ10 k) := by decide +kernel
def RL : String := "ApplauseTalliesLaw"
abbrev cL_law : ByteArray := code
def yL_law : MethodName := ⟨RL, "law", "([I)Z"⟩
def wsX5_init : List Cond := .code yX5_init cX5_init 2 none :: ([.methodLink RX5 1 objectInit, .instanceMethod objectInit, .code objectInit ⟨#[0xb1]⟩ 1 none, .methodLink RX5 7 Lib.Math.max.name, .static Lib.Math.max.name, .initialized "java/lang/Math", .code Lib.Math.max.name Lib.Math.max.code 2 (some .int), .arrayClass .int, .fieldLink RX5 13 "ApplauseTallies$Row" "cells" "[I"] ++ wsX50)
def wsX0_init : List Cond := .code yX0_init cX0_init 1 none :: ([.methodLink RX0 3 objectInit, .instanceMethod objectInit, .code objectInit ⟨#[0xb1]⟩ 1 none, .classLink RX0 9 RX5, .instantiable RX5 1, .initialized RX5, .fieldLink RX0 14 "ApplauseTallies$Encores" "owers" "LApplauseTallies$Row;", .fieldLink RX0 20 "ApplauseTallies$Encores" "since" "LApplauseTallies$Row;", .fieldLink RX0 23 "ApplauseTallies$Encores" "played" "LApplauseTallies$Row;", .fieldLink RX0 26 "ApplauseTallies$Encores" "lapsed" "LApplauseTallies$Row;", .fieldLink RX0 29 "ApplauseTallies$Encores" "pieces" "LApplauseTallies$Row;", .methodLink RX0 11 yX5_init, .instanceMethod yX5_init, .code yX5_init cX5_init 2 none, .methodLink RX5 1 objectInit, .methodLink RX5 7 Lib.Math.max.name, .static Lib.Math.max.name, .initialized "java/lang/Math", .code Lib.Math.max.name Lib.Math.max.code 2 (some .int), .arrayClass .int, .fieldLink RX5 13 "ApplauseTallies$Row" "cells" "[I"] ++ wsX50 ++ wsX00)
def wsX5_copyFrom : List Cond := .code yX5_copyFrom cX5_copyFrom 2 none :: ([.fieldLink RX5 13 "ApplauseTallies$Row" "cells" "[I", .methodLink RX5 19 Lib.Math.min.name, .static Lib.Math.min.name, .initialized "java/lang/Math", .code Lib.Math.min.name Lib.Math.min.code 2 (some .int), .methodLink RX5 22 arraycopyName, .native arraycopyName, .static arraycopyName, .initialized "java/lang/System"] ++ wsX50)
def wsX0_copyFrom : List Cond := .code yX0_copyFrom cX0_copyFrom 2 none :: ([.fieldLink RX0 14 "ApplauseTallies$Encores" "owers" "LApplauseTallies$Row;", .fieldLink RX0 20 "ApplauseTallies$Encores" "since" "LApplauseTallies$Row;", .fieldLink RX0 23 "ApplauseTallies$Encores" "played" "LApplauseTallies$Row;", .fieldLink RX0 26 "ApplauseTallies$Encores" "lapsed" "LApplauseTallies$Row;", .fieldLink RX0 29 "ApplauseTallies$Encores" "pieces" "LApplauseTallies$Row;", .fieldLink RX0 36 "ApplauseTallies$Encores" "owedCount" "I", .methodLink RX0 32 yX5_copyFrom, .instanceMethod yX5_copyFrom, .selects RX5 yX5_copyFrom yX5_copyFrom, .initialized RX5, .code yX5_copyFrom cX5_copyFrom 2 none, .fieldLink RX5 13 "ApplauseTallies$Row" "cells" "[I", .methodLink RX5 19 Lib.Math.min.name, .static Lib.Math.min.name, .initialized "java/lang/Math", .code Lib.Math.min.name Lib.Math.min.code 2 (some .int), .methodLink RX5 22 arraycopyName, .native arraycopyName, .static arraycopyName, .initialized "java/lang/System"] ++ wsX00 ++ wsX50)
def wsX5_add : List Cond := .code yX5_add cX5_add 3 none :: ([.fieldLink RX5 13 "ApplauseTallies$Row" "cells" "[I"] ++ wsX50)
def wsX5_store : List Cond := .code yX5_store cX5_store 3 none :: ([.fieldLink RX5 13 "ApplauseTallies$Row" "cells" "[I"] ++ wsX50)
def wsX0_owe : List Cond := .code yX0_owe cX0_owe 3 (some .boolean) :: ([.fieldLink RX0 36 "ApplauseTallies$Encores" "owedCount" "I", .fieldLink RX0 26 "ApplauseTallies$Encores" "lapsed" "LApplauseTallies$Row;", .fieldLink RX0 14 "ApplauseTallies$Encores" "owers" "LApplauseTallies$Row;", .fieldLink RX0 20 "ApplauseTallies$Encores" "since" "LApplauseTallies$Row;", .methodLink RX0 40 yX5_add, .instanceMethod yX5_add, .selects RX5 yX5_add yX5_add, .initialized RX5, .code yX5_add cX5_add 3 none, .fieldLink RX5 13 "ApplauseTallies$Row" "cells" "[I", .methodLink RX0 44 yX5_store, .instanceMethod yX5_store, .selects RX5 yX5_store yX5_store, .code yX5_store cX5_store 3 none] ++ wsX00 ++ wsX50)
def wsX5_at : List Cond := .code yX5_at cX5_at 2 (some .int) :: ([.fieldLink RX5 13 "ApplauseTallies$Row" "cells" "[I"] ++ wsX50)
def wsX0_lapseSince : List Cond := .code yX0_lapseSince cX0_lapseSince 4 (some .int) :: ([.fieldLink RX0 36 "ApplauseTallies$Encores" "owedCount" "I", .fieldLink RX0 20 "ApplauseTallies$Encores" "since" "LApplauseTallies$Row;", .fieldLink RX0 26 "ApplauseTallies$Encores" "lapsed" "LApplauseTallies$Row;", .fieldLink RX0 14 "ApplauseTallies$Encores" "owers" "LApplauseTallies$Row;", .methodLink RX0 47 yX5_at, .instanceMethod yX5_at, .selects RX5 yX5_at yX5_at, .initialized RX5, .code yX5_at cX5_at 2 (some .int), .fieldLink RX5 13 "ApplauseTallies$Row" "cells" "[I", .methodLink RX0 40 yX5_add, .instanceMethod yX5_add, .selects RX5 yX5_add yX5_add, .code yX5_add cX5_add 3 none, .methodLink RX0 44 yX5_store, .instanceMethod yX5_store, .selects RX5 yX5_store yX5_store, .code yX5_store cX5_store 3 none] ++ wsX00 ++ wsX50)
def wsX0_earliestOf : List Cond := .code yX0_earliestOf cX0_earliestOf 3 (some .int) :: ([.fieldLink RX0 36 "ApplauseTallies$Encores" "owedCount" "I", .fieldLink RX0 14 "ApplauseTallies$Encores" "owers" "LApplauseTallies$Row;", .methodLink RX0 47 yX5_at, .instanceMethod yX5_at, .selects RX5 yX5_at yX5_at, .initialized RX5, .code yX5_at cX5_at 2 (some .int), .fieldLink RX5 13 "ApplauseTallies$Row" "cells" "[I"] ++ wsX00 ++ wsX50)
def wsX0_owedBy : List Cond := .code yX0_owedBy cX0_owedBy 4 (some .int) :: ([.fieldLink RX0 36 "ApplauseTallies$Encores" "owedCount" "I", .fieldLink RX0 14 "ApplauseTallies$Encores" "owers" "LApplauseTallies$Row;", .methodLink RX0 47 yX5_at, .instanceMethod yX5_at, .selects RX5 yX5_at yX5_at, .initialized RX5, .code yX5_at cX5_at 2 (some .int), .fieldLink RX5 13 "ApplauseTallies$Row" "cells" "[I"] ++ wsX00 ++ wsX50)
def wsX0_playEarliestOf : List Cond := .code yX0_playEarliestOf cX0_playEarliestOf 4 (some .boolean) :: ([.fieldLink RX0 36 "ApplauseTallies$Encores" "owedCount" "I", .fieldLink RX0 14 "ApplauseTallies$Encores" "owers" "LApplauseTallies$Row;", .fieldLink RX0 20 "ApplauseTallies$Encores" "since" "LApplauseTallies$Row;", .fieldLink RX0 23 "ApplauseTallies$Encores" "played" "LApplauseTallies$Row;", .methodLink RX0 51 yX0_earliestOf, .instanceMethod yX0_earliestOf, .selects RX0 yX0_earliestOf yX0_earliestOf, .initialized RX0, .code yX0_earliestOf cX0_earliestOf 3 (some .int), .methodLink RX0 47 yX5_at, .instanceMethod yX5_at, .selects RX5 yX5_at yX5_at, .initialized RX5, .code yX5_at cX5_at 2 (some .int), .fieldLink RX5 13 "ApplauseTallies$Row" "cells" "[I", .methodLink RX0 44 yX5_store, .instanceMethod yX5_store, .selects RX5 yX5_store yX5_store, .code yX5_store cX5_store 3 none, .methodLink RX0 40 yX5_add, .instanceMethod yX5_add, .selects RX5 yX5_add yX5_add, .code yX5_add cX5_add 3 none] ++ wsX00 ++ wsX50)
def wsX7_isPerformer : List Cond := .code yX7_isPerformer cX7_isPerformer 1 (some .boolean) :: ([])
def wsX0_aboutPerformer : List Cond := .code yX0_aboutPerformer cX0_aboutPerformer 3 (some .int) :: ([.fieldLink RX0 23 "ApplauseTallies$Encores" "played" "LApplauseTallies$Row;", .fieldLink RX0 26 "ApplauseTallies$Encores" "lapsed" "LApplauseTallies$Row;", .fieldLink RX0 29 "ApplauseTallies$Encores" "pieces" "LApplauseTallies$Row;", .static yX7_isPerformer, .initialized RX7, .code yX7_isPerformer cX7_isPerformer 1 (some .boolean), .methodLink RX0 58 yX0_owedBy, .instanceMethod yX0_owedBy, .selects RX0 yX0_owedBy yX0_owedBy, .initialized RX0, .code yX0_owedBy cX0_owedBy 4 (some .int), .fieldLink RX0 36 "ApplauseTallies$Encores" "owedCount" "I", .fieldLink RX0 14 "ApplauseTallies$Encores" "owers" "LApplauseTallies$Row;", .methodLink RX0 47 yX5_at, .instanceMethod yX5_at, .selects RX5 yX5_at yX5_at, .initialized RX5, .code yX5_at cX5_at 2 (some .int), .fieldLink RX5 13 "ApplauseTallies$Row" "cells" "[I"] ++ wsX00 ++ wsX50)
def wsX0_aboutOwed : List Cond := .code yX0_aboutOwed cX0_aboutOwed 4 (some .int) :: ([.fieldLink RX0 36 "ApplauseTallies$Encores" "owedCount" "I", .fieldLink RX0 14 "ApplauseTallies$Encores" "owers" "LApplauseTallies$Row;", .fieldLink RX0 20 "ApplauseTallies$Encores" "since" "LApplauseTallies$Row;", .methodLink RX0 47 yX5_at, .instanceMethod yX5_at, .selects RX5 yX5_at yX5_at, .initialized RX5, .code yX5_at cX5_at 2 (some .int), .fieldLink RX5 13 "ApplauseTallies$Row" "cells" "[I"] ++ wsX00 ++ wsX50)
def wsX5_fill : List Cond := .code yX5_fill cX5_fill 3 none :: ([.fieldLink RX5 13 "ApplauseTallies$Row" "cells" "[I"] ++ wsX50)
def wsX6_init_r1 : List Cond := [Cond.methodLink RX6 3 objectInit, Cond.instanceMethod objectInit, Cond.code objectInit ⟨#[0xb1]⟩ 1 none, Cond.classLink RX6 9 RX5, Cond.instantiable RX5 1, Cond.initialized RX5, Cond.fieldLink RX6 14 "ApplauseTallies$Seats" "loudness" "LApplauseTallies$Row;", Cond.fieldLink RX6 20 "ApplauseTallies$Seats" "early" "LApplauseTallies$Row;", Cond.fieldLink RX6 23 "ApplauseTallies$Seats" "clapsTonight" "LApplauseTallies$Row;", Cond.fieldLink RX6 26 "ApplauseTallies$Seats" "clapsSoFar" "LApplauseTallies$Row;", Cond.fieldLink RX6 29 "ApplauseTallies$Seats" "clappers" "LApplauseTallies$Row;", Cond.methodLink RX6 11 yX5_init, Cond.instanceMethod yX5_init, Cond.code yX5_init cX5_init 2 none, Cond.methodLink RX5 1 objectInit, Cond.methodLink RX5 7 Lib.Math.max.name, Cond.static Lib.Math.max.name, Cond.initialized "java/lang/Math", Cond.code Lib.Math.max.name Lib.Math.max.code 2 (some .int), Cond.arrayClass .int, Cond.fieldLink RX5 13 "ApplauseTallies$Row" "cells" "[I", Cond.methodLink RX6 32 yX5_fill, Cond.instanceMethod yX5_fill, Cond.selects RX5 yX5_fill yX5_fill]
def wsX6_init_r2 : List Cond := [Cond.code yX5_fill cX5_fill 3 none]
def wsX6_init : List Cond := .code yX6_init cX6_init 1 none :: ((wsX6_init_r1 ++ wsX6_init_r2) ++ wsX50 ++ wsX60)
def wsX2_init_r1 : List Cond := [Cond.methodLink RX2 3 objectInit, Cond.instanceMethod objectInit, Cond.code objectInit ⟨#[0xb1]⟩ 1 none, Cond.classLink RX2 9 RX5, Cond.instantiable RX5 1, Cond.initialized RX5, Cond.fieldLink RX2 14 "ApplauseTallies$House" "settings" "LApplauseTallies$Row;", Cond.classLink RX2 20 RX6, Cond.instantiable RX6 8, Cond.initialized RX6, Cond.fieldLink RX2 23 "ApplauseTallies$House" "seats" "LApplauseTallies$Seats;", Cond.classLink RX2 27 RX0, Cond.instantiable RX0 6, Cond.initialized RX0, Cond.fieldLink RX2 30 "ApplauseTallies$House" "encores" "LApplauseTallies$Encores;", Cond.fieldLink RX2 34 "ApplauseTallies$House" "tonight" "LApplauseTallies$Row;", Cond.fieldLink RX2 37 "ApplauseTallies$House" "records" "LApplauseTallies$Row;", Cond.fieldLink RX2 40 "ApplauseTallies$House" "pieceBy" "I", Cond.methodLink RX2 11 yX5_init, Cond.instanceMethod yX5_init, Cond.code yX5_init cX5_init 2 none, Cond.methodLink RX5 1 objectInit, Cond.methodLink RX5 7 Lib.Math.max.name, Cond.static Lib.Math.max.name]
def wsX2_init_r2 : List Cond := [Cond.initialized "java/lang/Math", Cond.code Lib.Math.max.name Lib.Math.max.code 2 (some .int), Cond.arrayClass .int, Cond.fieldLink RX5 13 "ApplauseTallies$Row" "cells" "[I", Cond.methodLink RX2 22 yX6_init, Cond.instanceMethod yX6_init, Cond.code yX6_init cX6_init 1 none, Cond.methodLink RX6 3 objectInit, Cond.classLink RX6 9 RX5, Cond.fieldLink RX6 14 "ApplauseTallies$Seats" "loudness" "LApplauseTallies$Row;", Cond.fieldLink RX6 20 "ApplauseTallies$Seats" "early" "LApplauseTallies$Row;", Cond.fieldLink RX6 23 "ApplauseTallies$Seats" "clapsTonight" "LApplauseTallies$Row;", Cond.fieldLink RX6 26 "ApplauseTallies$Seats" "clapsSoFar" "LApplauseTallies$Row;", Cond.fieldLink RX6 29 "ApplauseTallies$Seats" "clappers" "LApplauseTallies$Row;", Cond.methodLink RX6 11 yX5_init, Cond.methodLink RX6 32 yX5_fill, Cond.instanceMethod yX5_fill, Cond.selects RX5 yX5_fill yX5_fill, Cond.code yX5_fill cX5_fill 3 none, Cond.instanceMethod yX0_init, Cond.code yX0_init cX0_init 1 none, Cond.methodLink RX0 3 objectInit, Cond.classLink RX0 9 RX5, Cond.fieldLink RX0 14 "ApplauseTallies$Encores" "owers" "LApplauseTallies$Row;"]
def wsX2_init_r3 : List Cond := [Cond.fieldLink RX0 20 "ApplauseTallies$Encores" "since" "LApplauseTallies$Row;", Cond.fieldLink RX0 23 "ApplauseTallies$Encores" "played" "LApplauseTallies$Row;", Cond.fieldLink RX0 26 "ApplauseTallies$Encores" "lapsed" "LApplauseTallies$Row;", Cond.fieldLink RX0 29 "ApplauseTallies$Encores" "pieces" "LApplauseTallies$Row;", Cond.methodLink RX0 11 yX5_init, Cond.methodLink RX2 48 yX5_store, Cond.instanceMethod yX5_store, Cond.selects RX5 yX5_store yX5_store, Cond.code yX5_store cX5_store 3 none]
def wsX2_init : List Cond := .code yX2_init cX2_init 2 none :: ((wsX2_init_r1 ++ (wsX2_init_r2 ++ wsX2_init_r3)) ++ wsX50 ++ wsX20 ++ wsX60 ++ wsX00)
def wsX1_init_r1 : List Cond := [Cond.methodLink RX1 3 objectInit, Cond.instanceMethod objectInit, Cond.code objectInit ⟨#[0xb1]⟩ 1 none, Cond.classLink RX1 11 RX2, Cond.fieldLink RX1 13 "ApplauseTallies$History" "states" "[LApplauseTallies$House;", Cond.instantiable RX2 11, Cond.initialized RX2, Cond.methodLink RX1 17 yX2_init, Cond.instanceMethod yX2_init, Cond.code yX2_init cX2_init 2 none, Cond.methodLink RX2 3 objectInit, Cond.classLink RX2 9 RX5, Cond.instantiable RX5 1, Cond.initialized RX5, Cond.fieldLink RX2 14 "ApplauseTallies$House" "settings" "LApplauseTallies$Row;", Cond.classLink RX2 20 RX6, Cond.instantiable RX6 8, Cond.initialized RX6, Cond.fieldLink RX2 23 "ApplauseTallies$House" "seats" "LApplauseTallies$Seats;", Cond.classLink RX2 27 RX0, Cond.instantiable RX0 6, Cond.initialized RX0, Cond.fieldLink RX2 30 "ApplauseTallies$House" "encores" "LApplauseTallies$Encores;", Cond.fieldLink RX2 34 "ApplauseTallies$House" "tonight" "LApplauseTallies$Row;"]
def wsX1_init_r2 : List Cond := [Cond.fieldLink RX2 37 "ApplauseTallies$House" "records" "LApplauseTallies$Row;", Cond.fieldLink RX2 40 "ApplauseTallies$House" "pieceBy" "I", Cond.methodLink RX2 11 yX5_init, Cond.instanceMethod yX5_init, Cond.code yX5_init cX5_init 2 none, Cond.methodLink RX5 1 objectInit, Cond.methodLink RX5 7 Lib.Math.max.name, Cond.static Lib.Math.max.name, Cond.initialized "java/lang/Math", Cond.code Lib.Math.max.name Lib.Math.max.code 2 (some .int), Cond.arrayClass .int, Cond.fieldLink RX5 13 "ApplauseTallies$Row" "cells" "[I", Cond.methodLink RX2 22 yX6_init, Cond.instanceMethod yX6_init, Cond.code yX6_init cX6_init 1 none, Cond.methodLink RX6 3 objectInit, Cond.classLink RX6 9 RX5, Cond.fieldLink RX6 14 "ApplauseTallies$Seats" "loudness" "LApplauseTallies$Row;", Cond.fieldLink RX6 20 "ApplauseTallies$Seats" "early" "LApplauseTallies$Row;", Cond.fieldLink RX6 23 "ApplauseTallies$Seats" "clapsTonight" "LApplauseTallies$Row;", Cond.fieldLink RX6 26 "ApplauseTallies$Seats" "clapsSoFar" "LApplauseTallies$Row;", Cond.fieldLink RX6 29 "ApplauseTallies$Seats" "clappers" "LApplauseTallies$Row;", Cond.methodLink RX6 11 yX5_init, Cond.methodLink RX6 32 yX5_fill]
def wsX1_init_r3 : List Cond := [Cond.instanceMethod yX5_fill, Cond.selects RX5 yX5_fill yX5_fill, Cond.code yX5_fill cX5_fill 3 none, Cond.instanceMethod yX0_init, Cond.code yX0_init cX0_init 1 none, Cond.methodLink RX0 3 objectInit, Cond.classLink RX0 9 RX5, Cond.fieldLink RX0 14 "ApplauseTallies$Encores" "owers" "LApplauseTallies$Row;", Cond.fieldLink RX0 20 "ApplauseTallies$Encores" "since" "LApplauseTallies$Row;", Cond.fieldLink RX0 23 "ApplauseTallies$Encores" "played" "LApplauseTallies$Row;", Cond.fieldLink RX0 26 "ApplauseTallies$Encores" "lapsed" "LApplauseTallies$Row;", Cond.fieldLink RX0 29 "ApplauseTallies$Encores" "pieces" "LApplauseTallies$Row;", Cond.methodLink RX0 11 yX5_init, Cond.methodLink RX2 48 yX5_store, Cond.instanceMethod yX5_store, Cond.selects RX5 yX5_store yX5_store, Cond.code yX5_store cX5_store 3 none]
def wsX1_init : List Cond := .code yX1_init cX1_init 2 none :: ((wsX1_init_r1 ++ (wsX1_init_r2 ++ wsX1_init_r3)) ++ wsX10 ++ wsX20 ++ wsX50 ++ wsX60 ++ wsX00)
def wsX1_kept : List Cond := .code yX1_kept cX1_kept 1 (some .int) :: ([.fieldLink RX1 18 "ApplauseTallies$History" "kept" "I"] ++ wsX10)
def wsX1_stateAt : List Cond := .code yX1_stateAt cX1_stateAt 2 (some (.object "ApplauseTallies$House")) :: ([.fieldLink RX1 13 "ApplauseTallies$History" "states" "[LApplauseTallies$House;"] ++ wsX10)
def wsX6_copyFrom : List Cond := .code yX6_copyFrom cX6_copyFrom 2 none :: ([.fieldLink RX6 14 "ApplauseTallies$Seats" "loudness" "LApplauseTallies$Row;", .fieldLink RX6 20 "ApplauseTallies$Seats" "early" "LApplauseTallies$Row;", .fieldLink RX6 23 "ApplauseTallies$Seats" "clapsTonight" "LApplauseTallies$Row;", .fieldLink RX6 26 "ApplauseTallies$Seats" "clapsSoFar" "LApplauseTallies$Row;", .fieldLink RX6 29 "ApplauseTallies$Seats" "clappers" "LApplauseTallies$Row;", .fieldLink RX6 39 "ApplauseTallies$Seats" "clapperCount" "I", .fieldLink RX6 43 "ApplauseTallies$Seats" "paid" "I", .fieldLink RX6 46 "ApplauseTallies$Seats" "clappedForPiece" "I", .methodLink RX6 35 yX5_copyFrom, .instanceMethod yX5_copyFrom, .selects RX5 yX5_copyFrom yX5_copyFrom, .initialized RX5, .code yX5_copyFrom cX5_copyFrom 2 none, .fieldLink RX5 13 "ApplauseTallies$Row" "cells" "[I", .methodLink RX5 19 Lib.Math.min.name, .static Lib.Math.min.name, .initialized "java/lang/Math", .code Lib.Math.min.name Lib.Math.min.code 2 (some .int), .methodLink RX5 22 arraycopyName, .native arraycopyName, .static arraycopyName, .initialized "java/lang/System"] ++ wsX60 ++ wsX50)
def wsX2_copyFrom_r1 : List Cond := [Cond.fieldLink RX2 14 "ApplauseTallies$House" "settings" "LApplauseTallies$Row;", Cond.fieldLink RX2 23 "ApplauseTallies$House" "seats" "LApplauseTallies$Seats;", Cond.fieldLink RX2 30 "ApplauseTallies$House" "encores" "LApplauseTallies$Encores;", Cond.fieldLink RX2 34 "ApplauseTallies$House" "tonight" "LApplauseTallies$Row;", Cond.fieldLink RX2 37 "ApplauseTallies$House" "records" "LApplauseTallies$Row;", Cond.fieldLink RX2 62 "ApplauseTallies$House" "applause" "I", Cond.fieldLink RX2 65 "ApplauseTallies$House" "time" "I", Cond.fieldLink RX2 68 "ApplauseTallies$House" "nights" "I", Cond.fieldLink RX2 40 "ApplauseTallies$House" "pieceBy" "I", Cond.fieldLink RX2 71 "ApplauseTallies$House" "pieceEnd" "I", Cond.fieldLink RX2 74 "ApplauseTallies$House" "encoreCame" "Z", Cond.methodLink RX2 52 yX5_copyFrom, Cond.instanceMethod yX5_copyFrom, Cond.selects RX5 yX5_copyFrom yX5_copyFrom, Cond.initialized RX5, Cond.code yX5_copyFrom cX5_copyFrom 2 none, Cond.fieldLink RX5 13 "ApplauseTallies$Row" "cells" "[I", Cond.methodLink RX5 19 Lib.Math.min.name, Cond.static Lib.Math.min.name, Cond.initialized "java/lang/Math", Cond.code Lib.Math.min.name Lib.Math.min.code 2 (some .int), Cond.methodLink RX5 22 arraycopyName, Cond.native arraycopyName, Cond.static arraycopyName]
def wsX2_copyFrom_r2 : List Cond := [Cond.initialized "java/lang/System", Cond.methodLink RX2 56 yX6_copyFrom, Cond.instanceMethod yX6_copyFrom, Cond.selects RX6 yX6_copyFrom yX6_copyFrom, Cond.initialized RX6, Cond.code yX6_copyFrom cX6_copyFrom 2 none, Cond.fieldLink RX6 14 "ApplauseTallies$Seats" "loudness" "LApplauseTallies$Row;", Cond.fieldLink RX6 20 "ApplauseTallies$Seats" "early" "LApplauseTallies$Row;", Cond.fieldLink RX6 23 "ApplauseTallies$Seats" "clapsTonight" "LApplauseTallies$Row;", Cond.fieldLink RX6 26 "ApplauseTallies$Seats" "clapsSoFar" "LApplauseTallies$Row;", Cond.fieldLink RX6 29 "ApplauseTallies$Seats" "clappers" "LApplauseTallies$Row;", Cond.fieldLink RX6 39 "ApplauseTallies$Seats" "clapperCount" "I", Cond.fieldLink RX6 43 "ApplauseTallies$Seats" "paid" "I", Cond.fieldLink RX6 46 "ApplauseTallies$Seats" "clappedForPiece" "I", Cond.methodLink RX6 35 yX5_copyFrom, Cond.methodLink RX2 59 yX0_copyFrom, Cond.instanceMethod yX0_copyFrom, Cond.selects RX0 yX0_copyFrom yX0_copyFrom, Cond.initialized RX0, Cond.code yX0_copyFrom cX0_copyFrom 2 none, Cond.fieldLink RX0 14 "ApplauseTallies$Encores" "owers" "LApplauseTallies$Row;", Cond.fieldLink RX0 20 "ApplauseTallies$Encores" "since" "LApplauseTallies$Row;", Cond.fieldLink RX0 23 "ApplauseTallies$Encores" "played" "LApplauseTallies$Row;", Cond.fieldLink RX0 26 "ApplauseTallies$Encores" "lapsed" "LApplauseTallies$Row;"]
def wsX2_copyFrom_r3 : List Cond := [Cond.fieldLink RX0 29 "ApplauseTallies$Encores" "pieces" "LApplauseTallies$Row;", Cond.fieldLink RX0 36 "ApplauseTallies$Encores" "owedCount" "I", Cond.methodLink RX0 32 yX5_copyFrom]
def wsX2_copyFrom : List Cond := .code yX2_copyFrom cX2_copyFrom 2 none :: ((wsX2_copyFrom_r1 ++ (wsX2_copyFrom_r2 ++ wsX2_copyFrom_r3)) ++ wsX20 ++ wsX50 ++ wsX60 ++ wsX00)
def wsX1_setAside_r1 : List Cond := [Cond.fieldLink RX1 22 "ApplauseTallies$History" "next" "I", Cond.methodLink RX1 25 yX1_stateAt, Cond.instanceMethod yX1_stateAt, Cond.selects RX1 yX1_stateAt yX1_stateAt, Cond.initialized RX1, Cond.code yX1_stateAt cX1_stateAt 2 (some (.object "ApplauseTallies$House")), Cond.fieldLink RX1 13 "ApplauseTallies$History" "states" "[LApplauseTallies$House;", Cond.methodLink RX1 29 yX2_copyFrom, Cond.instanceMethod yX2_copyFrom, Cond.selects RX2 yX2_copyFrom yX2_copyFrom, Cond.initialized RX2, Cond.code yX2_copyFrom cX2_copyFrom 2 none, Cond.fieldLink RX2 14 "ApplauseTallies$House" "settings" "LApplauseTallies$Row;", Cond.fieldLink RX2 23 "ApplauseTallies$House" "seats" "LApplauseTallies$Seats;", Cond.fieldLink RX2 30 "ApplauseTallies$House" "encores" "LApplauseTallies$Encores;", Cond.fieldLink RX2 34 "ApplauseTallies$House" "tonight" "LApplauseTallies$Row;", Cond.fieldLink RX2 37 "ApplauseTallies$House" "records" "LApplauseTallies$Row;", Cond.fieldLink RX2 62 "ApplauseTallies$House" "applause" "I", Cond.fieldLink RX2 65 "ApplauseTallies$House" "time" "I", Cond.fieldLink RX2 68 "ApplauseTallies$House" "nights" "I", Cond.fieldLink RX2 40 "ApplauseTallies$House" "pieceBy" "I", Cond.fieldLink RX2 71 "ApplauseTallies$House" "pieceEnd" "I", Cond.fieldLink RX2 74 "ApplauseTallies$House" "encoreCame" "Z", Cond.methodLink RX2 52 yX5_copyFrom]
def wsX1_setAside_r2 : List Cond := [Cond.instanceMethod yX5_copyFrom, Cond.selects RX5 yX5_copyFrom yX5_copyFrom, Cond.initialized RX5, Cond.code yX5_copyFrom cX5_copyFrom 2 none, Cond.fieldLink RX5 13 "ApplauseTallies$Row" "cells" "[I", Cond.methodLink RX5 19 Lib.Math.min.name, Cond.static Lib.Math.min.name, Cond.initialized "java/lang/Math", Cond.code Lib.Math.min.name Lib.Math.min.code 2 (some .int), Cond.methodLink RX5 22 arraycopyName, Cond.native arraycopyName, Cond.static arraycopyName, Cond.initialized "java/lang/System", Cond.methodLink RX2 56 yX6_copyFrom, Cond.instanceMethod yX6_copyFrom, Cond.selects RX6 yX6_copyFrom yX6_copyFrom, Cond.initialized RX6, Cond.code yX6_copyFrom cX6_copyFrom 2 none, Cond.fieldLink RX6 14 "ApplauseTallies$Seats" "loudness" "LApplauseTallies$Row;", Cond.fieldLink RX6 20 "ApplauseTallies$Seats" "early" "LApplauseTallies$Row;", Cond.fieldLink RX6 23 "ApplauseTallies$Seats" "clapsTonight" "LApplauseTallies$Row;", Cond.fieldLink RX6 26 "ApplauseTallies$Seats" "clapsSoFar" "LApplauseTallies$Row;", Cond.fieldLink RX6 29 "ApplauseTallies$Seats" "clappers" "LApplauseTallies$Row;", Cond.fieldLink RX6 39 "ApplauseTallies$Seats" "clapperCount" "I"]
def wsX1_setAside_r3 : List Cond := [Cond.fieldLink RX6 43 "ApplauseTallies$Seats" "paid" "I", Cond.fieldLink RX6 46 "ApplauseTallies$Seats" "clappedForPiece" "I", Cond.methodLink RX6 35 yX5_copyFrom, Cond.methodLink RX2 59 yX0_copyFrom, Cond.instanceMethod yX0_copyFrom, Cond.selects RX0 yX0_copyFrom yX0_copyFrom, Cond.initialized RX0, Cond.code yX0_copyFrom cX0_copyFrom 2 none, Cond.fieldLink RX0 14 "ApplauseTallies$Encores" "owers" "LApplauseTallies$Row;", Cond.fieldLink RX0 20 "ApplauseTallies$Encores" "since" "LApplauseTallies$Row;", Cond.fieldLink RX0 23 "ApplauseTallies$Encores" "played" "LApplauseTallies$Row;", Cond.fieldLink RX0 26 "ApplauseTallies$Encores" "lapsed" "LApplauseTallies$Row;", Cond.fieldLink RX0 29 "ApplauseTallies$Encores" "pieces" "LApplauseTallies$Row;", Cond.fieldLink RX0 36 "ApplauseTallies$Encores" "owedCount" "I", Cond.methodLink RX0 32 yX5_copyFrom]
def wsX1_setAside : List Cond := .code yX1_setAside cX1_setAside 3 none :: ((wsX1_setAside_r1 ++ (wsX1_setAside_r2 ++ wsX1_setAside_r3)) ++ wsX10 ++ wsX20 ++ wsX50 ++ wsX60 ++ wsX00)
def wsX1_keepUnlessError : List Cond := .code yX1_keepUnlessError cX1_keepUnlessError 2 (some .int) :: ([.fieldLink RX1 22 "ApplauseTallies$History" "next" "I", .fieldLink RX1 18 "ApplauseTallies$History" "kept" "I", .methodLink RX1 33 Lib.Math.min.name, .static Lib.Math.min.name, .initialized "java/lang/Math", .code Lib.Math.min.name Lib.Math.min.code 2 (some .int)] ++ wsX10)
def wsX1_takeBack_r1 : List Cond := [Cond.fieldLink RX1 22 "ApplauseTallies$History" "next" "I", Cond.fieldLink RX1 18 "ApplauseTallies$History" "kept" "I", Cond.methodLink RX1 25 yX1_stateAt, Cond.instanceMethod yX1_stateAt, Cond.selects RX1 yX1_stateAt yX1_stateAt, Cond.initialized RX1, Cond.code yX1_stateAt cX1_stateAt 2 (some (.object "ApplauseTallies$House")), Cond.fieldLink RX1 13 "ApplauseTallies$History" "states" "[LApplauseTallies$House;", Cond.methodLink RX1 29 yX2_copyFrom, Cond.instanceMethod yX2_copyFrom, Cond.selects RX2 yX2_copyFrom yX2_copyFrom, Cond.initialized RX2, Cond.code yX2_copyFrom cX2_copyFrom 2 none, Cond.fieldLink RX2 14 "ApplauseTallies$House" "settings" "LApplauseTallies$Row;", Cond.fieldLink RX2 23 "ApplauseTallies$House" "seats" "LApplauseTallies$Seats;", Cond.fieldLink RX2 30 "ApplauseTallies$House" "encores" "LApplauseTallies$Encores;", Cond.fieldLink RX2 34 "ApplauseTallies$House" "tonight" "LApplauseTallies$Row;", Cond.fieldLink RX2 37 "ApplauseTallies$House" "records" "LApplauseTallies$Row;", Cond.fieldLink RX2 62 "ApplauseTallies$House" "applause" "I", Cond.fieldLink RX2 65 "ApplauseTallies$House" "time" "I", Cond.fieldLink RX2 68 "ApplauseTallies$House" "nights" "I", Cond.fieldLink RX2 40 "ApplauseTallies$House" "pieceBy" "I", Cond.fieldLink RX2 71 "ApplauseTallies$House" "pieceEnd" "I", Cond.fieldLink RX2 74 "ApplauseTallies$House" "encoreCame" "Z"]
def wsX1_takeBack_r2 : List Cond := [Cond.methodLink RX2 52 yX5_copyFrom, Cond.instanceMethod yX5_copyFrom, Cond.selects RX5 yX5_copyFrom yX5_copyFrom, Cond.initialized RX5, Cond.code yX5_copyFrom cX5_copyFrom 2 none, Cond.fieldLink RX5 13 "ApplauseTallies$Row" "cells" "[I", Cond.methodLink RX5 19 Lib.Math.min.name, Cond.static Lib.Math.min.name, Cond.initialized "java/lang/Math", Cond.code Lib.Math.min.name Lib.Math.min.code 2 (some .int), Cond.methodLink RX5 22 arraycopyName, Cond.native arraycopyName, Cond.static arraycopyName, Cond.initialized "java/lang/System", Cond.methodLink RX2 56 yX6_copyFrom, Cond.instanceMethod yX6_copyFrom, Cond.selects RX6 yX6_copyFrom yX6_copyFrom, Cond.initialized RX6, Cond.code yX6_copyFrom cX6_copyFrom 2 none, Cond.fieldLink RX6 14 "ApplauseTallies$Seats" "loudness" "LApplauseTallies$Row;", Cond.fieldLink RX6 20 "ApplauseTallies$Seats" "early" "LApplauseTallies$Row;", Cond.fieldLink RX6 23 "ApplauseTallies$Seats" "clapsTonight" "LApplauseTallies$Row;", Cond.fieldLink RX6 26 "ApplauseTallies$Seats" "clapsSoFar" "LApplauseTallies$Row;", Cond.fieldLink RX6 29 "ApplauseTallies$Seats" "clappers" "LApplauseTallies$Row;"]
def wsX1_takeBack_r3 : List Cond := [Cond.fieldLink RX6 39 "ApplauseTallies$Seats" "clapperCount" "I", Cond.fieldLink RX6 43 "ApplauseTallies$Seats" "paid" "I", Cond.fieldLink RX6 46 "ApplauseTallies$Seats" "clappedForPiece" "I", Cond.methodLink RX6 35 yX5_copyFrom, Cond.methodLink RX2 59 yX0_copyFrom, Cond.instanceMethod yX0_copyFrom, Cond.selects RX0 yX0_copyFrom yX0_copyFrom, Cond.initialized RX0, Cond.code yX0_copyFrom cX0_copyFrom 2 none, Cond.fieldLink RX0 14 "ApplauseTallies$Encores" "owers" "LApplauseTallies$Row;", Cond.fieldLink RX0 20 "ApplauseTallies$Encores" "since" "LApplauseTallies$Row;", Cond.fieldLink RX0 23 "ApplauseTallies$Encores" "played" "LApplauseTallies$Row;", Cond.fieldLink RX0 26 "ApplauseTallies$Encores" "lapsed" "LApplauseTallies$Row;", Cond.fieldLink RX0 29 "ApplauseTallies$Encores" "pieces" "LApplauseTallies$Row;", Cond.fieldLink RX0 36 "ApplauseTallies$Encores" "owedCount" "I", Cond.methodLink RX0 32 yX5_copyFrom]
def wsX1_takeBack : List Cond := .code yX1_takeBack cX1_takeBack 4 (some .int) :: ((wsX1_takeBack_r1 ++ (wsX1_takeBack_r2 ++ wsX1_takeBack_r3)) ++ wsX10 ++ wsX20 ++ wsX50 ++ wsX60 ++ wsX00)
def wsX2_changeSetting : List Cond := .code yX2_changeSetting cX2_changeSetting 4 (some .int) :: ([.fieldLink RX2 14 "ApplauseTallies$House" "settings" "LApplauseTallies$Row;", .methodLink RX2 84 yX5_at, .instanceMethod yX5_at, .selects RX5 yX5_at yX5_at, .initialized RX5, .code yX5_at cX5_at 2 (some .int), .fieldLink RX5 13 "ApplauseTallies$Row" "cells" "[I", .methodLink RX2 48 yX5_store, .instanceMethod yX5_store, .selects RX5 yX5_store yX5_store, .code yX5_store cX5_store 3 none] ++ wsX20 ++ wsX50)
def wsX7_isSeat : List Cond := .code yX7_isSeat cX7_isSeat 1 (some .boolean) :: ([])
def wsX2_changeLoudness : List Cond := .code yX2_changeLoudness cX2_changeLoudness 4 (some .int) :: ([.fieldLink RX2 23 "ApplauseTallies$House" "seats" "LApplauseTallies$Seats;", .static yX7_isSeat, .initialized RX7, .code yX7_isSeat cX7_isSeat 1 (some .boolean), .methodLink RX2 84 yX5_at, .instanceMethod yX5_at, .selects RX5 yX5_at yX5_at, .initialized RX5, .code yX5_at cX5_at 2 (some .int), .fieldLink RX5 13 "ApplauseTallies$Row" "cells" "[I", .methodLink RX2 48 yX5_store, .instanceMethod yX5_store, .selects RX5 yX5_store yX5_store, .code yX5_store cX5_store 3 none] ++ wsX20 ++ wsX60 ++ wsX50)
def wsX2_switchPay : List Cond := .code yX2_switchPay cX2_switchPay 2 (some .int) :: ([.fieldLink RX2 23 "ApplauseTallies$House" "seats" "LApplauseTallies$Seats;", .static yX7_isSeat, .initialized RX7, .code yX7_isSeat cX7_isSeat 1 (some .boolean)] ++ wsX20 ++ wsX60)
def wsX6_beginPiece : List Cond := .code yX6_beginPiece cX6_beginPiece 1 none :: ([.fieldLink RX6 46 "ApplauseTallies$Seats" "clappedForPiece" "I"] ++ wsX60)
def wsX2_beginApplause : List Cond := .code yX2_beginApplause cX2_beginApplause 2 none :: ([.fieldLink RX2 30 "ApplauseTallies$House" "encores" "LApplauseTallies$Encores;", .fieldLink RX2 23 "ApplauseTallies$House" "seats" "LApplauseTallies$Seats;", .fieldLink RX2 62 "ApplauseTallies$House" "applause" "I", .fieldLink RX2 40 "ApplauseTallies$House" "pieceBy" "I", .fieldLink RX2 65 "ApplauseTallies$House" "time" "I", .fieldLink RX2 71 "ApplauseTallies$House" "pieceEnd" "I", .fieldLink RX2 74 "ApplauseTallies$House" "encoreCame" "Z", .methodLink RX2 107 yX5_add, .instanceMethod yX5_add, .selects RX5 yX5_add yX5_add, .initialized RX5, .code yX5_add cX5_add 3 none, .fieldLink RX5 13 "ApplauseTallies$Row" "cells" "[I", .methodLink RX2 110 yX6_beginPiece, .instanceMethod yX6_beginPiece, .selects RX6 yX6_beginPiece yX6_beginPiece, .initialized RX6, .code yX6_beginPiece cX6_beginPiece 1 none, .fieldLink RX6 46 "ApplauseTallies$Seats" "clappedForPiece" "I"] ++ wsX20 ++ wsX00 ++ wsX50 ++ wsX60)
def wsX2_endPiece_r1 : List Cond := [Cond.fieldLink RX2 62 "ApplauseTallies$House" "applause" "I", Cond.static yX7_isPerformer, Cond.initialized RX7, Cond.code yX7_isPerformer cX7_isPerformer 1 (some .boolean), Cond.methodLink RX2 101 yX2_beginApplause, Cond.instanceMethod yX2_beginApplause, Cond.selects RX2 yX2_beginApplause yX2_beginApplause, Cond.initialized RX2, Cond.code yX2_beginApplause cX2_beginApplause 2 none, Cond.fieldLink RX2 30 "ApplauseTallies$House" "encores" "LApplauseTallies$Encores;", Cond.fieldLink RX2 23 "ApplauseTallies$House" "seats" "LApplauseTallies$Seats;", Cond.fieldLink RX2 40 "ApplauseTallies$House" "pieceBy" "I", Cond.fieldLink RX2 65 "ApplauseTallies$House" "time" "I", Cond.fieldLink RX2 71 "ApplauseTallies$House" "pieceEnd" "I", Cond.fieldLink RX2 74 "ApplauseTallies$House" "encoreCame" "Z", Cond.methodLink RX2 107 yX5_add, Cond.instanceMethod yX5_add, Cond.selects RX5 yX5_add yX5_add, Cond.initialized RX5, Cond.code yX5_add cX5_add 3 none, Cond.fieldLink RX5 13 "ApplauseTallies$Row" "cells" "[I", Cond.methodLink RX2 110 yX6_beginPiece, Cond.instanceMethod yX6_beginPiece, Cond.selects RX6 yX6_beginPiece yX6_beginPiece]
def wsX2_endPiece_r2 : List Cond := [Cond.initialized RX6, Cond.code yX6_beginPiece cX6_beginPiece 1 none, Cond.fieldLink RX6 46 "ApplauseTallies$Seats" "clappedForPiece" "I"]
def wsX2_endPiece : List Cond := .code yX2_endPiece cX2_endPiece 3 (some .int) :: ((wsX2_endPiece_r1 ++ wsX2_endPiece_r2) ++ wsX20 ++ wsX00 ++ wsX50 ++ wsX60)
def wsX6_hasClapped : List Cond := .code yX6_hasClapped cX6_hasClapped 2 (some .boolean) :: ([.fieldLink RX6 46 "ApplauseTallies$Seats" "clappedForPiece" "I"] ++ wsX60)
def wsX6_addClap_r1 : List Cond := [Cond.fieldLink RX6 20 "ApplauseTallies$Seats" "early" "LApplauseTallies$Row;", Cond.fieldLink RX6 23 "ApplauseTallies$Seats" "clapsTonight" "LApplauseTallies$Row;", Cond.fieldLink RX6 29 "ApplauseTallies$Seats" "clappers" "LApplauseTallies$Row;", Cond.fieldLink RX6 39 "ApplauseTallies$Seats" "clapperCount" "I", Cond.fieldLink RX6 46 "ApplauseTallies$Seats" "clappedForPiece" "I", Cond.fieldLink RX6 26 "ApplauseTallies$Seats" "clapsSoFar" "LApplauseTallies$Row;", Cond.methodLink RX6 49 yX6_hasClapped, Cond.instanceMethod yX6_hasClapped, Cond.selects RX6 yX6_hasClapped yX6_hasClapped, Cond.initialized RX6, Cond.code yX6_hasClapped cX6_hasClapped 2 (some .boolean), Cond.methodLink RX6 53 yX5_add, Cond.instanceMethod yX5_add, Cond.selects RX5 yX5_add yX5_add, Cond.initialized RX5, Cond.code yX5_add cX5_add 3 none, Cond.fieldLink RX5 13 "ApplauseTallies$Row" "cells" "[I", Cond.methodLink RX6 57 yX5_at, Cond.instanceMethod yX5_at, Cond.selects RX5 yX5_at yX5_at, Cond.code yX5_at cX5_at 2 (some .int), Cond.methodLink RX6 61 yX5_store, Cond.instanceMethod yX5_store, Cond.selects RX5 yX5_store yX5_store]
def wsX6_addClap_r2 : List Cond := [Cond.code yX5_store cX5_store 3 none]
def wsX6_addClap : List Cond := .code yX6_addClap cX6_addClap 3 none :: ((wsX6_addClap_r1 ++ wsX6_addClap_r2) ++ wsX60 ++ wsX50)
def wsX2_bringEncore_r1 : List Cond := [Cond.fieldLink RX2 74 "ApplauseTallies$House" "encoreCame" "Z", Cond.fieldLink RX2 30 "ApplauseTallies$House" "encores" "LApplauseTallies$Encores;", Cond.fieldLink RX2 40 "ApplauseTallies$House" "pieceBy" "I", Cond.fieldLink RX2 65 "ApplauseTallies$House" "time" "I", Cond.fieldLink RX2 34 "ApplauseTallies$House" "tonight" "LApplauseTallies$Row;", Cond.methodLink RX2 126 yX0_owe, Cond.instanceMethod yX0_owe, Cond.selects RX0 yX0_owe yX0_owe, Cond.initialized RX0, Cond.code yX0_owe cX0_owe 3 (some .boolean), Cond.fieldLink RX0 36 "ApplauseTallies$Encores" "owedCount" "I", Cond.fieldLink RX0 26 "ApplauseTallies$Encores" "lapsed" "LApplauseTallies$Row;", Cond.fieldLink RX0 14 "ApplauseTallies$Encores" "owers" "LApplauseTallies$Row;", Cond.fieldLink RX0 20 "ApplauseTallies$Encores" "since" "LApplauseTallies$Row;", Cond.methodLink RX0 40 yX5_add, Cond.instanceMethod yX5_add, Cond.selects RX5 yX5_add yX5_add, Cond.initialized RX5, Cond.code yX5_add cX5_add 3 none, Cond.fieldLink RX5 13 "ApplauseTallies$Row" "cells" "[I", Cond.methodLink RX0 44 yX5_store, Cond.instanceMethod yX5_store, Cond.selects RX5 yX5_store yX5_store, Cond.code yX5_store cX5_store 3 none]
def wsX2_bringEncore_r2 : List Cond := [Cond.methodLink RX2 107 yX5_add]
def wsX2_bringEncore : List Cond := .code yX2_bringEncore cX2_bringEncore 1 none :: ((wsX2_bringEncore_r1 ++ wsX2_bringEncore_r2) ++ wsX20 ++ wsX00 ++ wsX50)
def wsX2_takeClap_r1 : List Cond := [Cond.fieldLink RX2 40 "ApplauseTallies$House" "pieceBy" "I", Cond.fieldLink RX2 23 "ApplauseTallies$House" "seats" "LApplauseTallies$Seats;", Cond.fieldLink RX2 65 "ApplauseTallies$House" "time" "I", Cond.fieldLink RX2 71 "ApplauseTallies$House" "pieceEnd" "I", Cond.fieldLink RX2 14 "ApplauseTallies$House" "settings" "LApplauseTallies$Row;", Cond.fieldLink RX2 34 "ApplauseTallies$House" "tonight" "LApplauseTallies$Row;", Cond.fieldLink RX2 62 "ApplauseTallies$House" "applause" "I", Cond.methodLink RX2 117 Lib.Math.min.name, Cond.static Lib.Math.min.name, Cond.initialized "java/lang/Math", Cond.code Lib.Math.min.name Lib.Math.min.code 2 (some .int), Cond.fieldLink RX2 74 "ApplauseTallies$House" "encoreCame" "Z", Cond.static yX7_isSeat, Cond.initialized RX7, Cond.code yX7_isSeat cX7_isSeat 1 (some .boolean), Cond.methodLink RX2 84 yX5_at, Cond.instanceMethod yX5_at, Cond.selects RX5 yX5_at yX5_at, Cond.initialized RX5, Cond.code yX5_at cX5_at 2 (some .int), Cond.fieldLink RX5 13 "ApplauseTallies$Row" "cells" "[I", Cond.methodLink RX2 113 yX6_addClap, Cond.instanceMethod yX6_addClap, Cond.selects RX6 yX6_addClap yX6_addClap]
def wsX2_takeClap_r2 : List Cond := [Cond.initialized RX6, Cond.code yX6_addClap cX6_addClap 3 none, Cond.fieldLink RX6 20 "ApplauseTallies$Seats" "early" "LApplauseTallies$Row;", Cond.fieldLink RX6 23 "ApplauseTallies$Seats" "clapsTonight" "LApplauseTallies$Row;", Cond.fieldLink RX6 29 "ApplauseTallies$Seats" "clappers" "LApplauseTallies$Row;", Cond.fieldLink RX6 39 "ApplauseTallies$Seats" "clapperCount" "I", Cond.fieldLink RX6 46 "ApplauseTallies$Seats" "clappedForPiece" "I", Cond.fieldLink RX6 26 "ApplauseTallies$Seats" "clapsSoFar" "LApplauseTallies$Row;", Cond.methodLink RX6 49 yX6_hasClapped, Cond.instanceMethod yX6_hasClapped, Cond.selects RX6 yX6_hasClapped yX6_hasClapped, Cond.code yX6_hasClapped cX6_hasClapped 2 (some .boolean), Cond.methodLink RX6 53 yX5_add, Cond.instanceMethod yX5_add, Cond.selects RX5 yX5_add yX5_add, Cond.code yX5_add cX5_add 3 none, Cond.methodLink RX6 57 yX5_at, Cond.methodLink RX6 61 yX5_store, Cond.instanceMethod yX5_store, Cond.selects RX5 yX5_store yX5_store, Cond.code yX5_store cX5_store 3 none, Cond.methodLink RX2 107 yX5_add, Cond.methodLink RX2 123 yX2_bringEncore, Cond.instanceMethod yX2_bringEncore]
def wsX2_takeClap_r3 : List Cond := [Cond.selects RX2 yX2_bringEncore yX2_bringEncore, Cond.initialized RX2, Cond.code yX2_bringEncore cX2_bringEncore 1 none, Cond.fieldLink RX2 30 "ApplauseTallies$House" "encores" "LApplauseTallies$Encores;", Cond.methodLink RX2 126 yX0_owe, Cond.instanceMethod yX0_owe, Cond.selects RX0 yX0_owe yX0_owe, Cond.initialized RX0, Cond.code yX0_owe cX0_owe 3 (some .boolean), Cond.fieldLink RX0 36 "ApplauseTallies$Encores" "owedCount" "I", Cond.fieldLink RX0 26 "ApplauseTallies$Encores" "lapsed" "LApplauseTallies$Row;", Cond.fieldLink RX0 14 "ApplauseTallies$Encores" "owers" "LApplauseTallies$Row;", Cond.fieldLink RX0 20 "ApplauseTallies$Encores" "since" "LApplauseTallies$Row;", Cond.methodLink RX0 40 yX5_add, Cond.methodLink RX0 44 yX5_store]
def wsX2_takeClap : List Cond := .code yX2_takeClap cX2_takeClap 2 (some .int) :: ((wsX2_takeClap_r1 ++ (wsX2_takeClap_r2 ++ wsX2_takeClap_r3)) ++ wsX20 ++ wsX60 ++ wsX50 ++ wsX00)
def wsX7_afterSecond : List Cond := .code yX7_afterSecond cX7_afterSecond 2 (some .int) :: ([.methodLink RX7 176 Lib.Math.max.name, .static Lib.Math.max.name, .initialized "java/lang/Math", .code Lib.Math.max.name Lib.Math.max.code 2 (some .int)])
def wsX2_letPass_r1 : List Cond := [Cond.fieldLink RX2 65 "ApplauseTallies$House" "time" "I", Cond.constant RX2 130 (99999), Cond.fieldLink RX2 62 "ApplauseTallies$House" "applause" "I", Cond.fieldLink RX2 14 "ApplauseTallies$House" "settings" "LApplauseTallies$Row;", Cond.fieldLink RX2 34 "ApplauseTallies$House" "tonight" "LApplauseTallies$Row;", Cond.fieldLink RX2 30 "ApplauseTallies$House" "encores" "LApplauseTallies$Encores;", Cond.methodLink RX2 84 yX5_at, Cond.instanceMethod yX5_at, Cond.selects RX5 yX5_at yX5_at, Cond.initialized RX5, Cond.code yX5_at cX5_at 2 (some .int), Cond.fieldLink RX5 13 "ApplauseTallies$Row" "cells" "[I", Cond.static yX7_afterSecond, Cond.initialized RX7, Cond.code yX7_afterSecond cX7_afterSecond 2 (some .int), Cond.methodLink RX7 176 Lib.Math.max.name, Cond.static Lib.Math.max.name, Cond.initialized "java/lang/Math", Cond.code Lib.Math.max.name Lib.Math.max.code 2 (some .int), Cond.methodLink RX2 134 yX0_lapseSince, Cond.instanceMethod yX0_lapseSince, Cond.selects RX0 yX0_lapseSince yX0_lapseSince, Cond.initialized RX0, Cond.code yX0_lapseSince cX0_lapseSince 4 (some .int)]
def wsX2_letPass_r2 : List Cond := [Cond.fieldLink RX0 36 "ApplauseTallies$Encores" "owedCount" "I", Cond.fieldLink RX0 20 "ApplauseTallies$Encores" "since" "LApplauseTallies$Row;", Cond.fieldLink RX0 26 "ApplauseTallies$Encores" "lapsed" "LApplauseTallies$Row;", Cond.fieldLink RX0 14 "ApplauseTallies$Encores" "owers" "LApplauseTallies$Row;", Cond.methodLink RX0 47 yX5_at, Cond.methodLink RX0 40 yX5_add, Cond.instanceMethod yX5_add, Cond.selects RX5 yX5_add yX5_add, Cond.code yX5_add cX5_add 3 none, Cond.methodLink RX0 44 yX5_store, Cond.instanceMethod yX5_store, Cond.selects RX5 yX5_store yX5_store, Cond.code yX5_store cX5_store 3 none, Cond.methodLink RX2 107 yX5_add]
def wsX2_letPass : List Cond := .code yX2_letPass cX2_letPass 3 (some .int) :: ((wsX2_letPass_r1 ++ wsX2_letPass_r2) ++ wsX20 ++ wsX50 ++ wsX00)
def wsX2_playEncore_r1 : List Cond := [Cond.fieldLink RX2 30 "ApplauseTallies$House" "encores" "LApplauseTallies$Encores;", Cond.fieldLink RX2 34 "ApplauseTallies$House" "tonight" "LApplauseTallies$Row;", Cond.static yX7_isPerformer, Cond.initialized RX7, Cond.code yX7_isPerformer cX7_isPerformer 1 (some .boolean), Cond.methodLink RX2 137 yX0_playEarliestOf, Cond.instanceMethod yX0_playEarliestOf, Cond.selects RX0 yX0_playEarliestOf yX0_playEarliestOf, Cond.initialized RX0, Cond.code yX0_playEarliestOf cX0_playEarliestOf 4 (some .boolean), Cond.fieldLink RX0 36 "ApplauseTallies$Encores" "owedCount" "I", Cond.fieldLink RX0 14 "ApplauseTallies$Encores" "owers" "LApplauseTallies$Row;", Cond.fieldLink RX0 20 "ApplauseTallies$Encores" "since" "LApplauseTallies$Row;", Cond.fieldLink RX0 23 "ApplauseTallies$Encores" "played" "LApplauseTallies$Row;", Cond.methodLink RX0 51 yX0_earliestOf, Cond.instanceMethod yX0_earliestOf, Cond.selects RX0 yX0_earliestOf yX0_earliestOf, Cond.code yX0_earliestOf cX0_earliestOf 3 (some .int), Cond.methodLink RX0 47 yX5_at, Cond.instanceMethod yX5_at, Cond.selects RX5 yX5_at yX5_at, Cond.initialized RX5, Cond.code yX5_at cX5_at 2 (some .int), Cond.fieldLink RX5 13 "ApplauseTallies$Row" "cells" "[I"]
def wsX2_playEncore_r2 : List Cond := [Cond.methodLink RX0 44 yX5_store, Cond.instanceMethod yX5_store, Cond.selects RX5 yX5_store yX5_store, Cond.code yX5_store cX5_store 3 none, Cond.methodLink RX0 40 yX5_add, Cond.instanceMethod yX5_add, Cond.selects RX5 yX5_add yX5_add, Cond.code yX5_add cX5_add 3 none, Cond.methodLink RX2 107 yX5_add, Cond.methodLink RX2 101 yX2_beginApplause, Cond.instanceMethod yX2_beginApplause, Cond.selects RX2 yX2_beginApplause yX2_beginApplause, Cond.initialized RX2, Cond.code yX2_beginApplause cX2_beginApplause 2 none, Cond.fieldLink RX2 23 "ApplauseTallies$House" "seats" "LApplauseTallies$Seats;", Cond.fieldLink RX2 62 "ApplauseTallies$House" "applause" "I", Cond.fieldLink RX2 40 "ApplauseTallies$House" "pieceBy" "I", Cond.fieldLink RX2 65 "ApplauseTallies$House" "time" "I", Cond.fieldLink RX2 71 "ApplauseTallies$House" "pieceEnd" "I", Cond.fieldLink RX2 74 "ApplauseTallies$House" "encoreCame" "Z", Cond.methodLink RX2 110 yX6_beginPiece, Cond.instanceMethod yX6_beginPiece, Cond.selects RX6 yX6_beginPiece yX6_beginPiece, Cond.initialized RX6]
def wsX2_playEncore_r3 : List Cond := [Cond.code yX6_beginPiece cX6_beginPiece 1 none, Cond.fieldLink RX6 46 "ApplauseTallies$Seats" "clappedForPiece" "I", Cond.methodLink RX2 140 yX0_owedBy, Cond.instanceMethod yX0_owedBy, Cond.selects RX0 yX0_owedBy yX0_owedBy, Cond.code yX0_owedBy cX0_owedBy 4 (some .int)]
def wsX2_playEncore : List Cond := .code yX2_playEncore cX2_playEncore 2 (some .int) :: ((wsX2_playEncore_r1 ++ (wsX2_playEncore_r2 ++ wsX2_playEncore_r3)) ++ wsX20 ++ wsX00 ++ wsX50 ++ wsX60)
def wsX2_takeCurtain : List Cond := .code yX2_takeCurtain cX2_takeCurtain 1 (some .int) :: ([.fieldLink RX2 62 "ApplauseTallies$House" "applause" "I", .fieldLink RX2 14 "ApplauseTallies$House" "settings" "LApplauseTallies$Row;", .fieldLink RX2 34 "ApplauseTallies$House" "tonight" "LApplauseTallies$Row;", .methodLink RX2 84 yX5_at, .instanceMethod yX5_at, .selects RX5 yX5_at yX5_at, .initialized RX5, .code yX5_at cX5_at 2 (some .int), .fieldLink RX5 13 "ApplauseTallies$Row" "cells" "[I", .methodLink RX2 107 yX5_add, .instanceMethod yX5_add, .selects RX5 yX5_add yX5_add, .code yX5_add cX5_add 3 none] ++ wsX20 ++ wsX50)
def wsX2_recordPlace : List Cond := .code yX2_recordPlace cX2_recordPlace 2 (some .int) :: ([])
def wsX6_beginNight : List Cond := .code yX6_beginNight cX6_beginNight 1 none :: ([.fieldLink RX6 46 "ApplauseTallies$Seats" "clappedForPiece" "I", .fieldLink RX6 23 "ApplauseTallies$Seats" "clapsTonight" "LApplauseTallies$Row;", .fieldLink RX6 39 "ApplauseTallies$Seats" "clapperCount" "I", .methodLink RX6 32 yX5_fill, .instanceMethod yX5_fill, .selects RX5 yX5_fill yX5_fill, .initialized RX5, .code yX5_fill cX5_fill 3 none, .fieldLink RX5 13 "ApplauseTallies$Row" "cells" "[I"] ++ wsX60 ++ wsX50)
def wsX2_endNight_r1 : List Cond := [Cond.fieldLink RX2 68 "ApplauseTallies$House" "nights" "I", Cond.fieldLink RX2 30 "ApplauseTallies$House" "encores" "LApplauseTallies$Encores;", Cond.fieldLink RX2 65 "ApplauseTallies$House" "time" "I", Cond.fieldLink RX2 34 "ApplauseTallies$House" "tonight" "LApplauseTallies$Row;", Cond.fieldLink RX2 37 "ApplauseTallies$House" "records" "LApplauseTallies$Row;", Cond.fieldLink RX2 23 "ApplauseTallies$House" "seats" "LApplauseTallies$Seats;", Cond.fieldLink RX2 62 "ApplauseTallies$House" "applause" "I", Cond.fieldLink RX2 40 "ApplauseTallies$House" "pieceBy" "I", Cond.methodLink RX2 134 yX0_lapseSince, Cond.instanceMethod yX0_lapseSince, Cond.selects RX0 yX0_lapseSince yX0_lapseSince, Cond.initialized RX0, Cond.code yX0_lapseSince cX0_lapseSince 4 (some .int), Cond.fieldLink RX0 36 "ApplauseTallies$Encores" "owedCount" "I", Cond.fieldLink RX0 20 "ApplauseTallies$Encores" "since" "LApplauseTallies$Row;", Cond.fieldLink RX0 26 "ApplauseTallies$Encores" "lapsed" "LApplauseTallies$Row;", Cond.fieldLink RX0 14 "ApplauseTallies$Encores" "owers" "LApplauseTallies$Row;", Cond.methodLink RX0 47 yX5_at, Cond.instanceMethod yX5_at, Cond.selects RX5 yX5_at yX5_at, Cond.initialized RX5, Cond.code yX5_at cX5_at 2 (some .int), Cond.fieldLink RX5 13 "ApplauseTallies$Row" "cells" "[I", Cond.methodLink RX0 40 yX5_add]
def wsX2_endNight_r2 : List Cond := [Cond.instanceMethod yX5_add, Cond.selects RX5 yX5_add yX5_add, Cond.code yX5_add cX5_add 3 none, Cond.methodLink RX0 44 yX5_store, Cond.instanceMethod yX5_store, Cond.selects RX5 yX5_store yX5_store, Cond.code yX5_store cX5_store 3 none, Cond.methodLink RX2 107 yX5_add, Cond.methodLink RX2 143 yX2_recordPlace, Cond.static yX2_recordPlace, Cond.initialized RX2, Cond.code yX2_recordPlace cX2_recordPlace 2 (some .int), Cond.methodLink RX2 84 yX5_at, Cond.methodLink RX2 48 yX5_store, Cond.methodLink RX2 146 yX5_fill, Cond.instanceMethod yX5_fill, Cond.selects RX5 yX5_fill yX5_fill, Cond.code yX5_fill cX5_fill 3 none, Cond.methodLink RX2 149 yX6_beginNight, Cond.instanceMethod yX6_beginNight, Cond.selects RX6 yX6_beginNight yX6_beginNight, Cond.initialized RX6, Cond.code yX6_beginNight cX6_beginNight 1 none, Cond.fieldLink RX6 46 "ApplauseTallies$Seats" "clappedForPiece" "I"]
def wsX2_endNight_r3 : List Cond := [Cond.fieldLink RX6 23 "ApplauseTallies$Seats" "clapsTonight" "LApplauseTallies$Row;", Cond.fieldLink RX6 39 "ApplauseTallies$Seats" "clapperCount" "I", Cond.methodLink RX6 32 yX5_fill]
def wsX2_endNight : List Cond := .code yX2_endNight cX2_endNight 3 (some .int) :: ((wsX2_endNight_r1 ++ (wsX2_endNight_r2 ++ wsX2_endNight_r3)) ++ wsX20 ++ wsX00 ++ wsX50 ++ wsX60)
def wsX4_append : List Cond := .code yX4_append cX4_append 2 none :: ([.fieldLink RX4 15 "ApplauseTallies$Pad" "length" "I", .fieldLink RX4 9 "ApplauseTallies$Pad" "codes" "[I"] ++ wsX40)
def wsX4_appendPart : List Cond := .code yX4_appendPart cX4_appendPart 6 none :: ([.constant RX4 23 (1000000000), .methodLink RX4 19 yX4_append, .instanceMethod yX4_append, .selects RX4 yX4_append yX4_append, .initialized RX4, .code yX4_append cX4_append 2 none, .fieldLink RX4 15 "ApplauseTallies$Pad" "length" "I", .fieldLink RX4 9 "ApplauseTallies$Pad" "codes" "[I"] ++ wsX40)
def wsX2_writeBill_r1 : List Cond := [Cond.fieldLink RX2 34 "ApplauseTallies$House" "tonight" "LApplauseTallies$Row;", Cond.fieldLink RX2 30 "ApplauseTallies$House" "encores" "LApplauseTallies$Encores;", Cond.methodLink RX2 84 yX5_at, Cond.instanceMethod yX5_at, Cond.selects RX5 yX5_at yX5_at, Cond.initialized RX5, Cond.code yX5_at cX5_at 2 (some .int), Cond.fieldLink RX5 13 "ApplauseTallies$Row" "cells" "[I", Cond.methodLink RX2 152 yX4_appendPart, Cond.instanceMethod yX4_appendPart, Cond.selects RX4 yX4_appendPart yX4_appendPart, Cond.initialized RX4, Cond.code yX4_appendPart cX4_appendPart 6 none, Cond.constant RX4 23 (1000000000), Cond.methodLink RX4 19 yX4_append, Cond.instanceMethod yX4_append, Cond.selects RX4 yX4_append yX4_append, Cond.code yX4_append cX4_append 2 none, Cond.fieldLink RX4 15 "ApplauseTallies$Pad" "length" "I", Cond.fieldLink RX4 9 "ApplauseTallies$Pad" "codes" "[I", Cond.methodLink RX2 140 yX0_owedBy, Cond.instanceMethod yX0_owedBy, Cond.selects RX0 yX0_owedBy yX0_owedBy, Cond.initialized RX0]
def wsX2_writeBill_r2 : List Cond := [Cond.code yX0_owedBy cX0_owedBy 4 (some .int), Cond.fieldLink RX0 36 "ApplauseTallies$Encores" "owedCount" "I", Cond.fieldLink RX0 14 "ApplauseTallies$Encores" "owers" "LApplauseTallies$Row;", Cond.methodLink RX0 47 yX5_at]
def wsX2_writeBill : List Cond := .code yX2_writeBill cX2_writeBill 4 none :: ((wsX2_writeBill_r1 ++ wsX2_writeBill_r2) ++ wsX20 ++ wsX50 ++ wsX40 ++ wsX00)
def wsX2_aboutSeat : List Cond := .code yX2_aboutSeat cX2_aboutSeat 3 (some .int) :: ([.fieldLink RX2 23 "ApplauseTallies$House" "seats" "LApplauseTallies$Seats;", .fieldLink RX2 14 "ApplauseTallies$House" "settings" "LApplauseTallies$Row;", .static yX7_isSeat, .initialized RX7, .code yX7_isSeat cX7_isSeat 1 (some .boolean), .methodLink RX2 84 yX5_at, .instanceMethod yX5_at, .selects RX5 yX5_at yX5_at, .initialized RX5, .code yX5_at cX5_at 2 (some .int), .fieldLink RX5 13 "ApplauseTallies$Row" "cells" "[I", .methodLink RX2 164 yX6_hasClapped, .instanceMethod yX6_hasClapped, .selects RX6 yX6_hasClapped yX6_hasClapped, .initialized RX6, .code yX6_hasClapped cX6_hasClapped 2 (some .boolean), .fieldLink RX6 46 "ApplauseTallies$Seats" "clappedForPiece" "I"] ++ wsX20 ++ wsX60 ++ wsX50)
def wsX6_suspected : List Cond := .code yX6_suspected cX6_suspected 4 (some .int) :: ([.fieldLink RX6 20 "ApplauseTallies$Seats" "early" "LApplauseTallies$Row;", .methodLink RX6 57 yX5_at, .instanceMethod yX5_at, .selects RX5 yX5_at yX5_at, .initialized RX5, .code yX5_at cX5_at 2 (some .int), .fieldLink RX5 13 "ApplauseTallies$Row" "cells" "[I"] ++ wsX60 ++ wsX50)
def wsX2_suspectedNow : List Cond := .code yX2_suspectedNow cX2_suspectedNow 1 (some .int) :: ([.fieldLink RX2 23 "ApplauseTallies$House" "seats" "LApplauseTallies$Seats;", .fieldLink RX2 14 "ApplauseTallies$House" "settings" "LApplauseTallies$Row;", .methodLink RX2 84 yX5_at, .instanceMethod yX5_at, .selects RX5 yX5_at yX5_at, .initialized RX5, .code yX5_at cX5_at 2 (some .int), .fieldLink RX5 13 "ApplauseTallies$Row" "cells" "[I", .methodLink RX2 170 yX6_suspected, .instanceMethod yX6_suspected, .selects RX6 yX6_suspected yX6_suspected, .initialized RX6, .code yX6_suspected cX6_suspected 4 (some .int), .fieldLink RX6 20 "ApplauseTallies$Seats" "early" "LApplauseTallies$Row;", .methodLink RX6 57 yX5_at] ++ wsX20 ++ wsX50 ++ wsX60)
def wsX2_recordOf : List Cond := .code yX2_recordOf cX2_recordOf 3 (some .int) :: ([.fieldLink RX2 68 "ApplauseTallies$House" "nights" "I", .methodLink RX2 117 Lib.Math.min.name, .static Lib.Math.min.name, .initialized "java/lang/Math", .code Lib.Math.min.name Lib.Math.min.code 2 (some .int), .fieldLink RX2 37 "ApplauseTallies$House" "records" "LApplauseTallies$Row;", .methodLink RX2 143 yX2_recordPlace, .static yX2_recordPlace, .initialized RX2, .code yX2_recordPlace cX2_recordPlace 2 (some .int), .methodLink RX2 84 yX5_at, .instanceMethod yX5_at, .selects RX5 yX5_at yX5_at, .initialized RX5, .code yX5_at cX5_at 2 (some .int), .fieldLink RX5 13 "ApplauseTallies$Row" "cells" "[I"] ++ wsX20 ++ wsX50)
def wsX5_sum : List Cond := .code yX5_sum cX5_sum 3 (some .int) :: ([.fieldLink RX5 13 "ApplauseTallies$Row" "cells" "[I"] ++ wsX50)
def wsX2_numberOf_r1 : List Cond := [Cond.fieldLink RX2 62 "ApplauseTallies$House" "applause" "I", Cond.fieldLink RX2 65 "ApplauseTallies$House" "time" "I", Cond.fieldLink RX2 68 "ApplauseTallies$House" "nights" "I", Cond.fieldLink RX2 34 "ApplauseTallies$House" "tonight" "LApplauseTallies$Row;", Cond.fieldLink RX2 30 "ApplauseTallies$House" "encores" "LApplauseTallies$Encores;", Cond.fieldLink RX2 40 "ApplauseTallies$House" "pieceBy" "I", Cond.fieldLink RX2 71 "ApplauseTallies$House" "pieceEnd" "I", Cond.fieldLink RX2 23 "ApplauseTallies$House" "seats" "LApplauseTallies$Seats;", Cond.fieldLink RX2 14 "ApplauseTallies$House" "settings" "LApplauseTallies$Row;", Cond.methodLink RX2 84 yX5_at, Cond.instanceMethod yX5_at, Cond.selects RX5 yX5_at yX5_at, Cond.initialized RX5, Cond.code yX5_at cX5_at 2 (some .int), Cond.fieldLink RX5 13 "ApplauseTallies$Row" "cells" "[I", Cond.methodLink RX2 179 yX5_sum, Cond.instanceMethod yX5_sum, Cond.selects RX5 yX5_sum yX5_sum, Cond.code yX5_sum cX5_sum 3 (some .int), Cond.methodLink RX2 186 yX2_suspectedNow, Cond.instanceMethod yX2_suspectedNow, Cond.selects RX2 yX2_suspectedNow yX2_suspectedNow, Cond.initialized RX2, Cond.code yX2_suspectedNow cX2_suspectedNow 1 (some .int)]
def wsX2_numberOf_r2 : List Cond := [Cond.methodLink RX2 170 yX6_suspected, Cond.instanceMethod yX6_suspected, Cond.selects RX6 yX6_suspected yX6_suspected, Cond.initialized RX6, Cond.code yX6_suspected cX6_suspected 4 (some .int), Cond.fieldLink RX6 20 "ApplauseTallies$Seats" "early" "LApplauseTallies$Row;", Cond.methodLink RX6 57 yX5_at]
def wsX2_numberOf : List Cond := .code yX2_numberOf cX2_numberOf 2 (some .int) :: ((wsX2_numberOf_r1 ++ wsX2_numberOf_r2) ++ wsX20 ++ wsX00 ++ wsX60 ++ wsX50)
def wsX2_secondsUntil : List Cond := .code yX2_secondsUntil cX2_secondsUntil 4 (some .int) :: ([.fieldLink RX2 62 "ApplauseTallies$House" "applause" "I", .fieldLink RX2 14 "ApplauseTallies$House" "settings" "LApplauseTallies$Row;", .methodLink RX2 84 yX5_at, .instanceMethod yX5_at, .selects RX5 yX5_at yX5_at, .initialized RX5, .code yX5_at cX5_at 2 (some .int), .fieldLink RX5 13 "ApplauseTallies$Row" "cells" "[I", .static yX7_afterSecond, .initialized RX7, .code yX7_afterSecond cX7_afterSecond 2 (some .int), .methodLink RX7 176 Lib.Math.max.name, .static Lib.Math.max.name, .initialized "java/lang/Math", .code Lib.Math.max.name Lib.Math.max.code 2 (some .int)] ++ wsX20 ++ wsX50)
def wsX2_clapsUntilEncore : List Cond := .code yX2_clapsUntilEncore cX2_clapsUntilEncore 4 (some .int) :: ([.fieldLink RX2 40 "ApplauseTallies$House" "pieceBy" "I", .fieldLink RX2 74 "ApplauseTallies$House" "encoreCame" "Z", .fieldLink RX2 23 "ApplauseTallies$House" "seats" "LApplauseTallies$Seats;", .fieldLink RX2 14 "ApplauseTallies$House" "settings" "LApplauseTallies$Row;", .fieldLink RX2 62 "ApplauseTallies$House" "applause" "I", .static yX7_isSeat, .initialized RX7, .code yX7_isSeat cX7_isSeat 1 (some .boolean), .methodLink RX2 84 yX5_at, .instanceMethod yX5_at, .selects RX5 yX5_at yX5_at, .initialized RX5, .code yX5_at cX5_at 2 (some .int), .fieldLink RX5 13 "ApplauseTallies$Row" "cells" "[I"] ++ wsX20 ++ wsX60 ++ wsX50)
def wsX2_secondsUntilLapse : List Cond := .code yX2_secondsUntilLapse cX2_secondsUntilLapse 4 (some .int) :: ([.fieldLink RX2 30 "ApplauseTallies$House" "encores" "LApplauseTallies$Encores;", .fieldLink RX2 65 "ApplauseTallies$House" "time" "I", .fieldLink RX2 14 "ApplauseTallies$House" "settings" "LApplauseTallies$Row;", .methodLink RX2 195 Lib.Math.max.name, .static Lib.Math.max.name, .initialized "java/lang/Math", .code Lib.Math.max.name Lib.Math.max.code 2 (some .int), .static yX7_isPerformer, .initialized RX7, .code yX7_isPerformer cX7_isPerformer 1 (some .boolean), .methodLink RX2 189 yX0_earliestOf, .instanceMethod yX0_earliestOf, .selects RX0 yX0_earliestOf yX0_earliestOf, .initialized RX0, .code yX0_earliestOf cX0_earliestOf 3 (some .int), .fieldLink RX0 36 "ApplauseTallies$Encores" "owedCount" "I", .fieldLink RX0 14 "ApplauseTallies$Encores" "owers" "LApplauseTallies$Row;", .methodLink RX0 47 yX5_at, .instanceMethod yX5_at, .selects RX5 yX5_at yX5_at, .initialized RX5, .code yX5_at cX5_at 2 (some .int), .fieldLink RX5 13 "ApplauseTallies$Row" "cells" "[I", .methodLink RX2 84 yX5_at] ++ wsX20 ++ wsX00 ++ wsX50)
def wsX2_curtainsLeft : List Cond := .code yX2_curtainsLeft cX2_curtainsLeft 3 (some .int) :: ([.fieldLink RX2 62 "ApplauseTallies$House" "applause" "I", .fieldLink RX2 14 "ApplauseTallies$House" "settings" "LApplauseTallies$Row;", .methodLink RX2 84 yX5_at, .instanceMethod yX5_at, .selects RX5 yX5_at yX5_at, .initialized RX5, .code yX5_at cX5_at 2 (some .int), .fieldLink RX5 13 "ApplauseTallies$Row" "cells" "[I"] ++ wsX20 ++ wsX50)
def wsX3_init : List Cond := .code yX3_init cX3_init 2 none :: ([.methodLink RX3 3 objectInit, .instanceMethod objectInit, .code objectInit ⟨#[0xb1]⟩ 1 none, .fieldLink RX3 9 "ApplauseTallies$OrderReader" "pad" "LApplauseTallies$Pad;"] ++ wsX30)
def wsX4_codeAt : List Cond := .code yX4_codeAt cX4_codeAt 2 (some .int) :: ([.fieldLink RX4 15 "ApplauseTallies$Pad" "length" "I", .fieldLink RX4 9 "ApplauseTallies$Pad" "codes" "[I"] ++ wsX40)
def wsX3_digitHere : List Cond := .code yX3_digitHere cX3_digitHere 2 (some .int) :: ([.fieldLink RX3 9 "ApplauseTallies$OrderReader" "pad" "LApplauseTallies$Pad;", .fieldLink RX3 15 "ApplauseTallies$OrderReader" "place" "I", .methodLink RX3 70 yX4_codeAt, .instanceMethod yX4_codeAt, .selects RX4 yX4_codeAt yX4_codeAt, .initialized RX4, .code yX4_codeAt cX4_codeAt 2 (some .int), .fieldLink RX4 15 "ApplauseTallies$Pad" "length" "I", .fieldLink RX4 9 "ApplauseTallies$Pad" "codes" "[I"] ++ wsX30 ++ wsX40)
def wsX3_readNumber : List Cond := .code yX3_readNumber cX3_readNumber 3 (some .boolean) :: ([.fieldLink RX3 43 "ApplauseTallies$OrderReader" "number" "I", .fieldLink RX3 15 "ApplauseTallies$OrderReader" "place" "I", .methodLink RX3 80 yX3_digitHere, .instanceMethod yX3_digitHere, .selects RX3 yX3_digitHere yX3_digitHere, .initialized RX3, .code yX3_digitHere cX3_digitHere 2 (some .int), .fieldLink RX3 9 "ApplauseTallies$OrderReader" "pad" "LApplauseTallies$Pad;", .methodLink RX3 70 yX4_codeAt, .instanceMethod yX4_codeAt, .selects RX4 yX4_codeAt yX4_codeAt, .initialized RX4, .code yX4_codeAt cX4_codeAt 2 (some .int), .fieldLink RX4 15 "ApplauseTallies$Pad" "length" "I", .fieldLink RX4 9 "ApplauseTallies$Pad" "codes" "[I"] ++ wsX30 ++ wsX40)
def wsX3_readSign : List Cond := .code yX3_readSign cX3_readSign 2 (some .boolean) :: ([.fieldLink RX3 9 "ApplauseTallies$OrderReader" "pad" "LApplauseTallies$Pad;", .fieldLink RX3 15 "ApplauseTallies$OrderReader" "place" "I", .methodLink RX3 70 yX4_codeAt, .instanceMethod yX4_codeAt, .selects RX4 yX4_codeAt yX4_codeAt, .initialized RX4, .code yX4_codeAt cX4_codeAt 2 (some .int), .fieldLink RX4 15 "ApplauseTallies$Pad" "length" "I", .fieldLink RX4 9 "ApplauseTallies$Pad" "codes" "[I"] ++ wsX30 ++ wsX40)
def wsX3_readTimes : List Cond := .code yX3_readTimes cX3_readTimes 3 (some .boolean) :: ([.fieldLink RX3 43 "ApplauseTallies$OrderReader" "number" "I", .fieldLink RX3 33 "ApplauseTallies$OrderReader" "times" "I", .methodLink RX3 29 yX3_readSign, .instanceMethod yX3_readSign, .selects RX3 yX3_readSign yX3_readSign, .initialized RX3, .code yX3_readSign cX3_readSign 2 (some .boolean), .fieldLink RX3 9 "ApplauseTallies$OrderReader" "pad" "LApplauseTallies$Pad;", .fieldLink RX3 15 "ApplauseTallies$OrderReader" "place" "I", .methodLink RX3 70 yX4_codeAt, .instanceMethod yX4_codeAt, .selects RX4 yX4_codeAt yX4_codeAt, .initialized RX4, .code yX4_codeAt cX4_codeAt 2 (some .int), .fieldLink RX4 15 "ApplauseTallies$Pad" "length" "I", .fieldLink RX4 9 "ApplauseTallies$Pad" "codes" "[I", .methodLink RX3 73 yX3_readNumber, .instanceMethod yX3_readNumber, .selects RX3 yX3_readNumber yX3_readNumber, .code yX3_readNumber cX3_readNumber 3 (some .boolean), .methodLink RX3 80 yX3_digitHere, .instanceMethod yX3_digitHere, .selects RX3 yX3_digitHere yX3_digitHere, .code yX3_digitHere cX3_digitHere 2 (some .int)] ++ wsX30 ++ wsX40)
def wsX3_readOrder_r1 : List Cond := [Cond.fieldLink RX3 9 "ApplauseTallies$OrderReader" "pad" "LApplauseTallies$Pad;", Cond.fieldLink RX3 15 "ApplauseTallies$OrderReader" "place" "I", Cond.fieldLink RX3 40 "ApplauseTallies$OrderReader" "kind" "I", Cond.fieldLink RX3 33 "ApplauseTallies$OrderReader" "times" "I", Cond.methodLink RX3 70 yX4_codeAt, Cond.instanceMethod yX4_codeAt, Cond.selects RX4 yX4_codeAt yX4_codeAt, Cond.initialized RX4, Cond.code yX4_codeAt cX4_codeAt 2 (some .int), Cond.fieldLink RX4 15 "ApplauseTallies$Pad" "length" "I", Cond.fieldLink RX4 9 "ApplauseTallies$Pad" "codes" "[I", Cond.methodLink RX3 73 yX3_readNumber, Cond.instanceMethod yX3_readNumber, Cond.selects RX3 yX3_readNumber yX3_readNumber, Cond.initialized RX3, Cond.code yX3_readNumber cX3_readNumber 3 (some .boolean), Cond.fieldLink RX3 43 "ApplauseTallies$OrderReader" "number" "I", Cond.methodLink RX3 80 yX3_digitHere, Cond.instanceMethod yX3_digitHere, Cond.selects RX3 yX3_digitHere yX3_digitHere, Cond.code yX3_digitHere cX3_digitHere 2 (some .int), Cond.methodLink RX3 77 yX3_readTimes, Cond.instanceMethod yX3_readTimes, Cond.selects RX3 yX3_readTimes yX3_readTimes]
def wsX3_readOrder_r2 : List Cond := [Cond.code yX3_readTimes cX3_readTimes 3 (some .boolean), Cond.methodLink RX3 29 yX3_readSign, Cond.instanceMethod yX3_readSign, Cond.selects RX3 yX3_readSign yX3_readSign, Cond.code yX3_readSign cX3_readSign 2 (some .boolean)]
def wsX3_readOrder : List Cond := .code yX3_readOrder cX3_readOrder 1 (some .boolean) :: ((wsX3_readOrder_r1 ++ wsX3_readOrder_r2) ++ wsX30 ++ wsX40)
def wsX4_length : List Cond := .code yX4_length cX4_length 1 (some .int) :: ([.fieldLink RX4 15 "ApplauseTallies$Pad" "length" "I"] ++ wsX40)
def wsX3_faultPlace_r1 : List Cond := [Cond.fieldLink RX3 15 "ApplauseTallies$OrderReader" "place" "I", Cond.fieldLink RX3 9 "ApplauseTallies$OrderReader" "pad" "LApplauseTallies$Pad;", Cond.methodLink RX3 19 yX3_readOrder, Cond.instanceMethod yX3_readOrder, Cond.selects RX3 yX3_readOrder yX3_readOrder, Cond.initialized RX3, Cond.code yX3_readOrder cX3_readOrder 1 (some .boolean), Cond.fieldLink RX3 40 "ApplauseTallies$OrderReader" "kind" "I", Cond.fieldLink RX3 33 "ApplauseTallies$OrderReader" "times" "I", Cond.methodLink RX3 70 yX4_codeAt, Cond.instanceMethod yX4_codeAt, Cond.selects RX4 yX4_codeAt yX4_codeAt, Cond.initialized RX4, Cond.code yX4_codeAt cX4_codeAt 2 (some .int), Cond.fieldLink RX4 15 "ApplauseTallies$Pad" "length" "I", Cond.fieldLink RX4 9 "ApplauseTallies$Pad" "codes" "[I", Cond.methodLink RX3 73 yX3_readNumber, Cond.instanceMethod yX3_readNumber, Cond.selects RX3 yX3_readNumber yX3_readNumber, Cond.code yX3_readNumber cX3_readNumber 3 (some .boolean), Cond.fieldLink RX3 43 "ApplauseTallies$OrderReader" "number" "I", Cond.methodLink RX3 80 yX3_digitHere, Cond.instanceMethod yX3_digitHere, Cond.selects RX3 yX3_digitHere yX3_digitHere]
def wsX3_faultPlace_r2 : List Cond := [Cond.code yX3_digitHere cX3_digitHere 2 (some .int), Cond.methodLink RX3 77 yX3_readTimes, Cond.instanceMethod yX3_readTimes, Cond.selects RX3 yX3_readTimes yX3_readTimes, Cond.code yX3_readTimes cX3_readTimes 3 (some .boolean), Cond.methodLink RX3 29 yX3_readSign, Cond.instanceMethod yX3_readSign, Cond.selects RX3 yX3_readSign yX3_readSign, Cond.code yX3_readSign cX3_readSign 2 (some .boolean), Cond.methodLink RX3 23 yX4_length, Cond.instanceMethod yX4_length, Cond.selects RX4 yX4_length yX4_length, Cond.code yX4_length cX4_length 1 (some .int)]
def wsX3_faultPlace : List Cond := .code yX3_faultPlace cX3_faultPlace 2 (some .int) :: ((wsX3_faultPlace_r1 ++ wsX3_faultPlace_r2) ++ wsX30 ++ wsX40)
def wsX3_carryOrderOutIn_r1 : List Cond := [Cond.fieldLink RX3 40 "ApplauseTallies$OrderReader" "kind" "I", Cond.fieldLink RX3 43 "ApplauseTallies$OrderReader" "number" "I", Cond.methodLink RX3 46 yX2_endPiece, Cond.instanceMethod yX2_endPiece, Cond.selects RX2 yX2_endPiece yX2_endPiece, Cond.initialized RX2, Cond.code yX2_endPiece cX2_endPiece 3 (some .int), Cond.fieldLink RX2 62 "ApplauseTallies$House" "applause" "I", Cond.static yX7_isPerformer, Cond.initialized RX7, Cond.code yX7_isPerformer cX7_isPerformer 1 (some .boolean), Cond.methodLink RX2 101 yX2_beginApplause, Cond.instanceMethod yX2_beginApplause, Cond.selects RX2 yX2_beginApplause yX2_beginApplause, Cond.code yX2_beginApplause cX2_beginApplause 2 none, Cond.fieldLink RX2 30 "ApplauseTallies$House" "encores" "LApplauseTallies$Encores;", Cond.fieldLink RX2 23 "ApplauseTallies$House" "seats" "LApplauseTallies$Seats;", Cond.fieldLink RX2 40 "ApplauseTallies$House" "pieceBy" "I", Cond.fieldLink RX2 65 "ApplauseTallies$House" "time" "I", Cond.fieldLink RX2 71 "ApplauseTallies$House" "pieceEnd" "I", Cond.fieldLink RX2 74 "ApplauseTallies$House" "encoreCame" "Z", Cond.methodLink RX2 107 yX5_add, Cond.instanceMethod yX5_add, Cond.selects RX5 yX5_add yX5_add]
def wsX3_carryOrderOutIn_r2 : List Cond := [Cond.initialized RX5, Cond.code yX5_add cX5_add 3 none, Cond.fieldLink RX5 13 "ApplauseTallies$Row" "cells" "[I", Cond.methodLink RX2 110 yX6_beginPiece, Cond.instanceMethod yX6_beginPiece, Cond.selects RX6 yX6_beginPiece yX6_beginPiece, Cond.initialized RX6, Cond.code yX6_beginPiece cX6_beginPiece 1 none, Cond.fieldLink RX6 46 "ApplauseTallies$Seats" "clappedForPiece" "I", Cond.methodLink RX3 52 yX2_takeClap, Cond.instanceMethod yX2_takeClap, Cond.selects RX2 yX2_takeClap yX2_takeClap, Cond.code yX2_takeClap cX2_takeClap 2 (some .int), Cond.fieldLink RX2 14 "ApplauseTallies$House" "settings" "LApplauseTallies$Row;", Cond.fieldLink RX2 34 "ApplauseTallies$House" "tonight" "LApplauseTallies$Row;", Cond.methodLink RX2 117 Lib.Math.min.name, Cond.static Lib.Math.min.name, Cond.initialized "java/lang/Math", Cond.code Lib.Math.min.name Lib.Math.min.code 2 (some .int), Cond.static yX7_isSeat, Cond.code yX7_isSeat cX7_isSeat 1 (some .boolean), Cond.methodLink RX2 84 yX5_at, Cond.instanceMethod yX5_at, Cond.selects RX5 yX5_at yX5_at]
def wsX3_carryOrderOutIn_r3 : List Cond := [Cond.code yX5_at cX5_at 2 (some .int), Cond.methodLink RX2 113 yX6_addClap, Cond.instanceMethod yX6_addClap, Cond.selects RX6 yX6_addClap yX6_addClap, Cond.code yX6_addClap cX6_addClap 3 none, Cond.fieldLink RX6 20 "ApplauseTallies$Seats" "early" "LApplauseTallies$Row;", Cond.fieldLink RX6 23 "ApplauseTallies$Seats" "clapsTonight" "LApplauseTallies$Row;", Cond.fieldLink RX6 29 "ApplauseTallies$Seats" "clappers" "LApplauseTallies$Row;", Cond.fieldLink RX6 39 "ApplauseTallies$Seats" "clapperCount" "I", Cond.fieldLink RX6 26 "ApplauseTallies$Seats" "clapsSoFar" "LApplauseTallies$Row;", Cond.methodLink RX6 49 yX6_hasClapped, Cond.instanceMethod yX6_hasClapped, Cond.selects RX6 yX6_hasClapped yX6_hasClapped, Cond.code yX6_hasClapped cX6_hasClapped 2 (some .boolean), Cond.methodLink RX6 53 yX5_add, Cond.methodLink RX6 57 yX5_at, Cond.methodLink RX6 61 yX5_store, Cond.instanceMethod yX5_store, Cond.selects RX5 yX5_store yX5_store, Cond.code yX5_store cX5_store 3 none, Cond.methodLink RX2 123 yX2_bringEncore, Cond.instanceMethod yX2_bringEncore, Cond.selects RX2 yX2_bringEncore yX2_bringEncore, Cond.code yX2_bringEncore cX2_bringEncore 1 none]
def wsX3_carryOrderOutIn_r4 : List Cond := [Cond.methodLink RX2 126 yX0_owe, Cond.instanceMethod yX0_owe, Cond.selects RX0 yX0_owe yX0_owe, Cond.initialized RX0, Cond.code yX0_owe cX0_owe 3 (some .boolean), Cond.fieldLink RX0 36 "ApplauseTallies$Encores" "owedCount" "I", Cond.fieldLink RX0 26 "ApplauseTallies$Encores" "lapsed" "LApplauseTallies$Row;", Cond.fieldLink RX0 14 "ApplauseTallies$Encores" "owers" "LApplauseTallies$Row;", Cond.fieldLink RX0 20 "ApplauseTallies$Encores" "since" "LApplauseTallies$Row;", Cond.methodLink RX0 40 yX5_add, Cond.methodLink RX0 44 yX5_store, Cond.methodLink RX3 55 yX2_letPass, Cond.instanceMethod yX2_letPass, Cond.selects RX2 yX2_letPass yX2_letPass, Cond.code yX2_letPass cX2_letPass 3 (some .int), Cond.constant RX2 130 (99999), Cond.static yX7_afterSecond, Cond.code yX7_afterSecond cX7_afterSecond 2 (some .int), Cond.methodLink RX7 176 Lib.Math.max.name, Cond.static Lib.Math.max.name, Cond.code Lib.Math.max.name Lib.Math.max.code 2 (some .int), Cond.methodLink RX2 134 yX0_lapseSince, Cond.instanceMethod yX0_lapseSince, Cond.selects RX0 yX0_lapseSince yX0_lapseSince]
def wsX3_carryOrderOutIn_r5 : List Cond := [Cond.code yX0_lapseSince cX0_lapseSince 4 (some .int), Cond.methodLink RX0 47 yX5_at, Cond.methodLink RX3 58 yX2_playEncore, Cond.instanceMethod yX2_playEncore, Cond.selects RX2 yX2_playEncore yX2_playEncore, Cond.code yX2_playEncore cX2_playEncore 2 (some .int), Cond.methodLink RX2 137 yX0_playEarliestOf, Cond.instanceMethod yX0_playEarliestOf, Cond.selects RX0 yX0_playEarliestOf yX0_playEarliestOf, Cond.code yX0_playEarliestOf cX0_playEarliestOf 4 (some .boolean), Cond.fieldLink RX0 23 "ApplauseTallies$Encores" "played" "LApplauseTallies$Row;", Cond.methodLink RX0 51 yX0_earliestOf, Cond.instanceMethod yX0_earliestOf, Cond.selects RX0 yX0_earliestOf yX0_earliestOf, Cond.code yX0_earliestOf cX0_earliestOf 3 (some .int), Cond.methodLink RX2 140 yX0_owedBy, Cond.instanceMethod yX0_owedBy, Cond.selects RX0 yX0_owedBy yX0_owedBy, Cond.code yX0_owedBy cX0_owedBy 4 (some .int), Cond.methodLink RX3 61 yX2_takeCurtain, Cond.instanceMethod yX2_takeCurtain, Cond.selects RX2 yX2_takeCurtain yX2_takeCurtain, Cond.code yX2_takeCurtain cX2_takeCurtain 1 (some .int), Cond.methodLink RX3 64 yX2_endNight]
def wsX3_carryOrderOutIn_r6 : List Cond := [Cond.instanceMethod yX2_endNight, Cond.selects RX2 yX2_endNight yX2_endNight, Cond.code yX2_endNight cX2_endNight 3 (some .int), Cond.fieldLink RX2 68 "ApplauseTallies$House" "nights" "I", Cond.fieldLink RX2 37 "ApplauseTallies$House" "records" "LApplauseTallies$Row;", Cond.methodLink RX2 143 yX2_recordPlace, Cond.static yX2_recordPlace, Cond.code yX2_recordPlace cX2_recordPlace 2 (some .int), Cond.methodLink RX2 48 yX5_store, Cond.methodLink RX2 146 yX5_fill, Cond.instanceMethod yX5_fill, Cond.selects RX5 yX5_fill yX5_fill, Cond.code yX5_fill cX5_fill 3 none, Cond.methodLink RX2 149 yX6_beginNight, Cond.instanceMethod yX6_beginNight, Cond.selects RX6 yX6_beginNight yX6_beginNight, Cond.code yX6_beginNight cX6_beginNight 1 none, Cond.methodLink RX6 32 yX5_fill, Cond.methodLink RX3 67 yX2_switchPay, Cond.instanceMethod yX2_switchPay, Cond.selects RX2 yX2_switchPay yX2_switchPay, Cond.code yX2_switchPay cX2_switchPay 2 (some .int)]
def wsX3_carryOrderOutIn : List Cond := .code yX3_carryOrderOutIn cX3_carryOrderOutIn 2 (some .int) :: ((wsX3_carryOrderOutIn_r1 ++ (wsX3_carryOrderOutIn_r2 ++ (wsX3_carryOrderOutIn_r3 ++ (wsX3_carryOrderOutIn_r4 ++ (wsX3_carryOrderOutIn_r5 ++ wsX3_carryOrderOutIn_r6))))) ++ wsX30 ++ wsX20 ++ wsX00 ++ wsX50 ++ wsX60)
def wsX3_carryOutIn_r1 : List Cond := [Cond.fieldLink RX3 15 "ApplauseTallies$OrderReader" "place" "I", Cond.fieldLink RX3 33 "ApplauseTallies$OrderReader" "times" "I", Cond.methodLink RX3 19 yX3_readOrder, Cond.instanceMethod yX3_readOrder, Cond.selects RX3 yX3_readOrder yX3_readOrder, Cond.initialized RX3, Cond.code yX3_readOrder cX3_readOrder 1 (some .boolean), Cond.fieldLink RX3 9 "ApplauseTallies$OrderReader" "pad" "LApplauseTallies$Pad;", Cond.fieldLink RX3 40 "ApplauseTallies$OrderReader" "kind" "I", Cond.methodLink RX3 70 yX4_codeAt, Cond.instanceMethod yX4_codeAt, Cond.selects RX4 yX4_codeAt yX4_codeAt, Cond.initialized RX4, Cond.code yX4_codeAt cX4_codeAt 2 (some .int), Cond.fieldLink RX4 15 "ApplauseTallies$Pad" "length" "I", Cond.fieldLink RX4 9 "ApplauseTallies$Pad" "codes" "[I", Cond.methodLink RX3 73 yX3_readNumber, Cond.instanceMethod yX3_readNumber, Cond.selects RX3 yX3_readNumber yX3_readNumber, Cond.code yX3_readNumber cX3_readNumber 3 (some .boolean), Cond.fieldLink RX3 43 "ApplauseTallies$OrderReader" "number" "I", Cond.methodLink RX3 80 yX3_digitHere, Cond.instanceMethod yX3_digitHere, Cond.selects RX3 yX3_digitHere yX3_digitHere]
def wsX3_carryOutIn_r2 : List Cond := [Cond.code yX3_digitHere cX3_digitHere 2 (some .int), Cond.methodLink RX3 77 yX3_readTimes, Cond.instanceMethod yX3_readTimes, Cond.selects RX3 yX3_readTimes yX3_readTimes, Cond.code yX3_readTimes cX3_readTimes 3 (some .boolean), Cond.methodLink RX3 29 yX3_readSign, Cond.instanceMethod yX3_readSign, Cond.selects RX3 yX3_readSign yX3_readSign, Cond.code yX3_readSign cX3_readSign 2 (some .boolean), Cond.methodLink RX3 36 yX3_carryOrderOutIn, Cond.instanceMethod yX3_carryOrderOutIn, Cond.selects RX3 yX3_carryOrderOutIn yX3_carryOrderOutIn, Cond.code yX3_carryOrderOutIn cX3_carryOrderOutIn 2 (some .int), Cond.methodLink RX3 46 yX2_endPiece, Cond.instanceMethod yX2_endPiece, Cond.selects RX2 yX2_endPiece yX2_endPiece, Cond.initialized RX2, Cond.code yX2_endPiece cX2_endPiece 3 (some .int), Cond.fieldLink RX2 62 "ApplauseTallies$House" "applause" "I", Cond.static yX7_isPerformer, Cond.initialized RX7, Cond.code yX7_isPerformer cX7_isPerformer 1 (some .boolean), Cond.methodLink RX2 101 yX2_beginApplause, Cond.instanceMethod yX2_beginApplause]
def wsX3_carryOutIn_r3 : List Cond := [Cond.selects RX2 yX2_beginApplause yX2_beginApplause, Cond.code yX2_beginApplause cX2_beginApplause 2 none, Cond.fieldLink RX2 30 "ApplauseTallies$House" "encores" "LApplauseTallies$Encores;", Cond.fieldLink RX2 23 "ApplauseTallies$House" "seats" "LApplauseTallies$Seats;", Cond.fieldLink RX2 40 "ApplauseTallies$House" "pieceBy" "I", Cond.fieldLink RX2 65 "ApplauseTallies$House" "time" "I", Cond.fieldLink RX2 71 "ApplauseTallies$House" "pieceEnd" "I", Cond.fieldLink RX2 74 "ApplauseTallies$House" "encoreCame" "Z", Cond.methodLink RX2 107 yX5_add, Cond.instanceMethod yX5_add, Cond.selects RX5 yX5_add yX5_add, Cond.initialized RX5, Cond.code yX5_add cX5_add 3 none, Cond.fieldLink RX5 13 "ApplauseTallies$Row" "cells" "[I", Cond.methodLink RX2 110 yX6_beginPiece, Cond.instanceMethod yX6_beginPiece, Cond.selects RX6 yX6_beginPiece yX6_beginPiece, Cond.initialized RX6, Cond.code yX6_beginPiece cX6_beginPiece 1 none, Cond.fieldLink RX6 46 "ApplauseTallies$Seats" "clappedForPiece" "I", Cond.methodLink RX3 52 yX2_takeClap, Cond.instanceMethod yX2_takeClap, Cond.selects RX2 yX2_takeClap yX2_takeClap, Cond.code yX2_takeClap cX2_takeClap 2 (some .int)]
def wsX3_carryOutIn_r4 : List Cond := [Cond.fieldLink RX2 14 "ApplauseTallies$House" "settings" "LApplauseTallies$Row;", Cond.fieldLink RX2 34 "ApplauseTallies$House" "tonight" "LApplauseTallies$Row;", Cond.methodLink RX2 117 Lib.Math.min.name, Cond.static Lib.Math.min.name, Cond.initialized "java/lang/Math", Cond.code Lib.Math.min.name Lib.Math.min.code 2 (some .int), Cond.static yX7_isSeat, Cond.code yX7_isSeat cX7_isSeat 1 (some .boolean), Cond.methodLink RX2 84 yX5_at, Cond.instanceMethod yX5_at, Cond.selects RX5 yX5_at yX5_at, Cond.code yX5_at cX5_at 2 (some .int), Cond.methodLink RX2 113 yX6_addClap, Cond.instanceMethod yX6_addClap, Cond.selects RX6 yX6_addClap yX6_addClap, Cond.code yX6_addClap cX6_addClap 3 none, Cond.fieldLink RX6 20 "ApplauseTallies$Seats" "early" "LApplauseTallies$Row;", Cond.fieldLink RX6 23 "ApplauseTallies$Seats" "clapsTonight" "LApplauseTallies$Row;", Cond.fieldLink RX6 29 "ApplauseTallies$Seats" "clappers" "LApplauseTallies$Row;", Cond.fieldLink RX6 39 "ApplauseTallies$Seats" "clapperCount" "I", Cond.fieldLink RX6 26 "ApplauseTallies$Seats" "clapsSoFar" "LApplauseTallies$Row;", Cond.methodLink RX6 49 yX6_hasClapped, Cond.instanceMethod yX6_hasClapped, Cond.selects RX6 yX6_hasClapped yX6_hasClapped]
def wsX3_carryOutIn_r5 : List Cond := [Cond.code yX6_hasClapped cX6_hasClapped 2 (some .boolean), Cond.methodLink RX6 53 yX5_add, Cond.methodLink RX6 57 yX5_at, Cond.methodLink RX6 61 yX5_store, Cond.instanceMethod yX5_store, Cond.selects RX5 yX5_store yX5_store, Cond.code yX5_store cX5_store 3 none, Cond.methodLink RX2 123 yX2_bringEncore, Cond.instanceMethod yX2_bringEncore, Cond.selects RX2 yX2_bringEncore yX2_bringEncore, Cond.code yX2_bringEncore cX2_bringEncore 1 none, Cond.methodLink RX2 126 yX0_owe, Cond.instanceMethod yX0_owe, Cond.selects RX0 yX0_owe yX0_owe, Cond.initialized RX0, Cond.code yX0_owe cX0_owe 3 (some .boolean), Cond.fieldLink RX0 36 "ApplauseTallies$Encores" "owedCount" "I", Cond.fieldLink RX0 26 "ApplauseTallies$Encores" "lapsed" "LApplauseTallies$Row;", Cond.fieldLink RX0 14 "ApplauseTallies$Encores" "owers" "LApplauseTallies$Row;", Cond.fieldLink RX0 20 "ApplauseTallies$Encores" "since" "LApplauseTallies$Row;", Cond.methodLink RX0 40 yX5_add, Cond.methodLink RX0 44 yX5_store, Cond.methodLink RX3 55 yX2_letPass, Cond.instanceMethod yX2_letPass]
def wsX3_carryOutIn_r6 : List Cond := [Cond.selects RX2 yX2_letPass yX2_letPass, Cond.code yX2_letPass cX2_letPass 3 (some .int), Cond.constant RX2 130 (99999), Cond.static yX7_afterSecond, Cond.code yX7_afterSecond cX7_afterSecond 2 (some .int), Cond.methodLink RX7 176 Lib.Math.max.name, Cond.static Lib.Math.max.name, Cond.code Lib.Math.max.name Lib.Math.max.code 2 (some .int), Cond.methodLink RX2 134 yX0_lapseSince, Cond.instanceMethod yX0_lapseSince, Cond.selects RX0 yX0_lapseSince yX0_lapseSince, Cond.code yX0_lapseSince cX0_lapseSince 4 (some .int), Cond.methodLink RX0 47 yX5_at, Cond.methodLink RX3 58 yX2_playEncore, Cond.instanceMethod yX2_playEncore, Cond.selects RX2 yX2_playEncore yX2_playEncore, Cond.code yX2_playEncore cX2_playEncore 2 (some .int), Cond.methodLink RX2 137 yX0_playEarliestOf, Cond.instanceMethod yX0_playEarliestOf, Cond.selects RX0 yX0_playEarliestOf yX0_playEarliestOf, Cond.code yX0_playEarliestOf cX0_playEarliestOf 4 (some .boolean), Cond.fieldLink RX0 23 "ApplauseTallies$Encores" "played" "LApplauseTallies$Row;", Cond.methodLink RX0 51 yX0_earliestOf, Cond.instanceMethod yX0_earliestOf]
def wsX3_carryOutIn_r7 : List Cond := [Cond.selects RX0 yX0_earliestOf yX0_earliestOf, Cond.code yX0_earliestOf cX0_earliestOf 3 (some .int), Cond.methodLink RX2 140 yX0_owedBy, Cond.instanceMethod yX0_owedBy, Cond.selects RX0 yX0_owedBy yX0_owedBy, Cond.code yX0_owedBy cX0_owedBy 4 (some .int), Cond.methodLink RX3 61 yX2_takeCurtain, Cond.instanceMethod yX2_takeCurtain, Cond.selects RX2 yX2_takeCurtain yX2_takeCurtain, Cond.code yX2_takeCurtain cX2_takeCurtain 1 (some .int), Cond.methodLink RX3 64 yX2_endNight, Cond.instanceMethod yX2_endNight, Cond.selects RX2 yX2_endNight yX2_endNight, Cond.code yX2_endNight cX2_endNight 3 (some .int), Cond.fieldLink RX2 68 "ApplauseTallies$House" "nights" "I", Cond.fieldLink RX2 37 "ApplauseTallies$House" "records" "LApplauseTallies$Row;", Cond.methodLink RX2 143 yX2_recordPlace, Cond.static yX2_recordPlace, Cond.code yX2_recordPlace cX2_recordPlace 2 (some .int), Cond.methodLink RX2 48 yX5_store, Cond.methodLink RX2 146 yX5_fill, Cond.instanceMethod yX5_fill, Cond.selects RX5 yX5_fill yX5_fill, Cond.code yX5_fill cX5_fill 3 none]
def wsX3_carryOutIn_r8 : List Cond := [Cond.methodLink RX2 149 yX6_beginNight, Cond.instanceMethod yX6_beginNight, Cond.selects RX6 yX6_beginNight yX6_beginNight, Cond.code yX6_beginNight cX6_beginNight 1 none, Cond.methodLink RX6 32 yX5_fill, Cond.methodLink RX3 67 yX2_switchPay, Cond.instanceMethod yX2_switchPay, Cond.selects RX2 yX2_switchPay yX2_switchPay, Cond.code yX2_switchPay cX2_switchPay 2 (some .int)]
def wsX3_carryOutIn : List Cond := .code yX3_carryOutIn cX3_carryOutIn 5 (some .int) :: ((wsX3_carryOutIn_r1 ++ (wsX3_carryOutIn_r2 ++ (wsX3_carryOutIn_r3 ++ (wsX3_carryOutIn_r4 ++ (wsX3_carryOutIn_r5 ++ (wsX3_carryOutIn_r6 ++ (wsX3_carryOutIn_r7 ++ wsX3_carryOutIn_r8))))))) ++ wsX30 ++ wsX40 ++ wsX20 ++ wsX00 ++ wsX50 ++ wsX60)
def wsX4_init : List Cond := .code yX4_init cX4_init 1 none :: ([.methodLink RX4 3 objectInit, .instanceMethod objectInit, .code objectInit ⟨#[0xb1]⟩ 1 none, .arrayClass .int, .fieldLink RX4 9 "ApplauseTallies$Pad" "codes" "[I"] ++ wsX40)
def wsX4_has : List Cond := .code yX4_has cX4_has 2 (some .boolean) :: ([.fieldLink RX4 15 "ApplauseTallies$Pad" "length" "I"] ++ wsX40)
def wsX4_clear : List Cond := .code yX4_clear cX4_clear 1 none :: ([.fieldLink RX4 15 "ApplauseTallies$Pad" "length" "I"] ++ wsX40)
def wsX4_amountOf : List Cond := .code yX4_amountOf cX4_amountOf 6 (some .int) :: ([.constantLong RX4 28 (255)])
def wsX4_appendAll : List Cond := .code yX4_appendAll cX4_appendAll 5 (some .int) :: ([.fieldLink RX4 15 "ApplauseTallies$Pad" "length" "I", .constantLong RX4 28 (255), .methodLink RX4 24 yX4_amountOf, .static yX4_amountOf, .initialized RX4, .code yX4_amountOf cX4_amountOf 6 (some .int), .methodLink RX4 19 yX4_append, .instanceMethod yX4_append, .selects RX4 yX4_append yX4_append, .code yX4_append cX4_append 2 none, .fieldLink RX4 9 "ApplauseTallies$Pad" "codes" "[I"] ++ wsX40)
def wsX6_clapperAt : List Cond := .code yX6_clapperAt cX6_clapperAt 2 (some .int) :: ([.fieldLink RX6 39 "ApplauseTallies$Seats" "clapperCount" "I", .fieldLink RX6 29 "ApplauseTallies$Seats" "clappers" "LApplauseTallies$Row;", .methodLink RX6 57 yX5_at, .instanceMethod yX5_at, .selects RX5 yX5_at yX5_at, .initialized RX5, .code yX5_at cX5_at 2 (some .int), .fieldLink RX5 13 "ApplauseTallies$Row" "cells" "[I"] ++ wsX60 ++ wsX50)
def wsX7_init_r1 : List Cond := [Cond.methodLink RX7 1 objectInit, Cond.instanceMethod objectInit, Cond.code objectInit ⟨#[0xb1]⟩ 1 none, Cond.classLink RX7 7 RX2, Cond.instantiable RX2 11, Cond.initialized RX2, Cond.fieldLink RX7 10 "ApplauseTallies" "house" "LApplauseTallies$House;", Cond.classLink RX7 16 RX1, Cond.instantiable RX1 3, Cond.initialized RX1, Cond.fieldLink RX7 19 "ApplauseTallies" "history" "LApplauseTallies$History;", Cond.fieldLink RX7 23 "ApplauseTallies" "slots" "[LApplauseTallies$House;", Cond.classLink RX7 27 RX4, Cond.instantiable RX4 2, Cond.initialized RX4, Cond.fieldLink RX7 30 "ApplauseTallies" "pad" "LApplauseTallies$Pad;", Cond.classLink RX7 34 RX3, Cond.instantiable RX3 5, Cond.initialized RX3, Cond.fieldLink RX7 39 "ApplauseTallies" "reader" "LApplauseTallies$OrderReader;", Cond.methodLink RX7 9 yX2_init, Cond.instanceMethod yX2_init, Cond.code yX2_init cX2_init 2 none, Cond.methodLink RX2 3 objectInit]
def wsX7_init_r2 : List Cond := [Cond.classLink RX2 9 RX5, Cond.instantiable RX5 1, Cond.initialized RX5, Cond.fieldLink RX2 14 "ApplauseTallies$House" "settings" "LApplauseTallies$Row;", Cond.classLink RX2 20 RX6, Cond.instantiable RX6 8, Cond.initialized RX6, Cond.fieldLink RX2 23 "ApplauseTallies$House" "seats" "LApplauseTallies$Seats;", Cond.classLink RX2 27 RX0, Cond.instantiable RX0 6, Cond.initialized RX0, Cond.fieldLink RX2 30 "ApplauseTallies$House" "encores" "LApplauseTallies$Encores;", Cond.fieldLink RX2 34 "ApplauseTallies$House" "tonight" "LApplauseTallies$Row;", Cond.fieldLink RX2 37 "ApplauseTallies$House" "records" "LApplauseTallies$Row;", Cond.fieldLink RX2 40 "ApplauseTallies$House" "pieceBy" "I", Cond.methodLink RX2 11 yX5_init, Cond.instanceMethod yX5_init, Cond.code yX5_init cX5_init 2 none, Cond.methodLink RX5 1 objectInit, Cond.methodLink RX5 7 Lib.Math.max.name, Cond.static Lib.Math.max.name, Cond.initialized "java/lang/Math", Cond.code Lib.Math.max.name Lib.Math.max.code 2 (some .int), Cond.arrayClass .int]
def wsX7_init_r3 : List Cond := [Cond.fieldLink RX5 13 "ApplauseTallies$Row" "cells" "[I", Cond.methodLink RX2 22 yX6_init, Cond.instanceMethod yX6_init, Cond.code yX6_init cX6_init 1 none, Cond.methodLink RX6 3 objectInit, Cond.classLink RX6 9 RX5, Cond.fieldLink RX6 14 "ApplauseTallies$Seats" "loudness" "LApplauseTallies$Row;", Cond.fieldLink RX6 20 "ApplauseTallies$Seats" "early" "LApplauseTallies$Row;", Cond.fieldLink RX6 23 "ApplauseTallies$Seats" "clapsTonight" "LApplauseTallies$Row;", Cond.fieldLink RX6 26 "ApplauseTallies$Seats" "clapsSoFar" "LApplauseTallies$Row;", Cond.fieldLink RX6 29 "ApplauseTallies$Seats" "clappers" "LApplauseTallies$Row;", Cond.methodLink RX6 11 yX5_init, Cond.methodLink RX6 32 yX5_fill, Cond.instanceMethod yX5_fill, Cond.selects RX5 yX5_fill yX5_fill, Cond.code yX5_fill cX5_fill 3 none, Cond.instanceMethod yX0_init, Cond.code yX0_init cX0_init 1 none, Cond.methodLink RX0 3 objectInit, Cond.classLink RX0 9 RX5, Cond.fieldLink RX0 14 "ApplauseTallies$Encores" "owers" "LApplauseTallies$Row;", Cond.fieldLink RX0 20 "ApplauseTallies$Encores" "since" "LApplauseTallies$Row;", Cond.fieldLink RX0 23 "ApplauseTallies$Encores" "played" "LApplauseTallies$Row;", Cond.fieldLink RX0 26 "ApplauseTallies$Encores" "lapsed" "LApplauseTallies$Row;"]
def wsX7_init_r4 : List Cond := [Cond.fieldLink RX0 29 "ApplauseTallies$Encores" "pieces" "LApplauseTallies$Row;", Cond.methodLink RX0 11 yX5_init, Cond.methodLink RX2 48 yX5_store, Cond.instanceMethod yX5_store, Cond.selects RX5 yX5_store yX5_store, Cond.code yX5_store cX5_store 3 none, Cond.methodLink RX7 18 yX1_init, Cond.instanceMethod yX1_init, Cond.code yX1_init cX1_init 2 none, Cond.methodLink RX1 3 objectInit, Cond.classLink RX1 11 RX2, Cond.fieldLink RX1 13 "ApplauseTallies$History" "states" "[LApplauseTallies$House;", Cond.methodLink RX1 17 yX2_init, Cond.instanceMethod yX4_init, Cond.code yX4_init cX4_init 1 none, Cond.methodLink RX4 3 objectInit, Cond.fieldLink RX4 9 "ApplauseTallies$Pad" "codes" "[I", Cond.methodLink RX7 36 yX3_init, Cond.instanceMethod yX3_init, Cond.code yX3_init cX3_init 2 none, Cond.methodLink RX3 3 objectInit, Cond.fieldLink RX3 9 "ApplauseTallies$OrderReader" "pad" "LApplauseTallies$Pad;"]
def wsX7_init : List Cond := .code yX7_init cX7_init 1 none :: ((wsX7_init_r1 ++ (wsX7_init_r2 ++ (wsX7_init_r3 ++ wsX7_init_r4))) ++ wsX20 ++ wsX70 ++ wsX10 ++ wsX40 ++ wsX30 ++ wsX50 ++ wsX60 ++ wsX00)
def wsX7_set_r1 : List Cond := [Cond.fieldLink RX7 19 "ApplauseTallies" "history" "LApplauseTallies$History;", Cond.fieldLink RX7 10 "ApplauseTallies" "house" "LApplauseTallies$House;", Cond.methodLink RX7 43 yX1_setAside, Cond.instanceMethod yX1_setAside, Cond.selects RX1 yX1_setAside yX1_setAside, Cond.initialized RX1, Cond.code yX1_setAside cX1_setAside 3 none, Cond.fieldLink RX1 22 "ApplauseTallies$History" "next" "I", Cond.methodLink RX1 25 yX1_stateAt, Cond.instanceMethod yX1_stateAt, Cond.selects RX1 yX1_stateAt yX1_stateAt, Cond.code yX1_stateAt cX1_stateAt 2 (some (.object "ApplauseTallies$House")), Cond.fieldLink RX1 13 "ApplauseTallies$History" "states" "[LApplauseTallies$House;", Cond.methodLink RX1 29 yX2_copyFrom, Cond.instanceMethod yX2_copyFrom, Cond.selects RX2 yX2_copyFrom yX2_copyFrom, Cond.initialized RX2, Cond.code yX2_copyFrom cX2_copyFrom 2 none, Cond.fieldLink RX2 14 "ApplauseTallies$House" "settings" "LApplauseTallies$Row;", Cond.fieldLink RX2 23 "ApplauseTallies$House" "seats" "LApplauseTallies$Seats;", Cond.fieldLink RX2 30 "ApplauseTallies$House" "encores" "LApplauseTallies$Encores;", Cond.fieldLink RX2 34 "ApplauseTallies$House" "tonight" "LApplauseTallies$Row;", Cond.fieldLink RX2 37 "ApplauseTallies$House" "records" "LApplauseTallies$Row;", Cond.fieldLink RX2 62 "ApplauseTallies$House" "applause" "I"]
def wsX7_set_r2 : List Cond := [Cond.fieldLink RX2 65 "ApplauseTallies$House" "time" "I", Cond.fieldLink RX2 68 "ApplauseTallies$House" "nights" "I", Cond.fieldLink RX2 40 "ApplauseTallies$House" "pieceBy" "I", Cond.fieldLink RX2 71 "ApplauseTallies$House" "pieceEnd" "I", Cond.fieldLink RX2 74 "ApplauseTallies$House" "encoreCame" "Z", Cond.methodLink RX2 52 yX5_copyFrom, Cond.instanceMethod yX5_copyFrom, Cond.selects RX5 yX5_copyFrom yX5_copyFrom, Cond.initialized RX5, Cond.code yX5_copyFrom cX5_copyFrom 2 none, Cond.fieldLink RX5 13 "ApplauseTallies$Row" "cells" "[I", Cond.methodLink RX5 19 Lib.Math.min.name, Cond.static Lib.Math.min.name, Cond.initialized "java/lang/Math", Cond.code Lib.Math.min.name Lib.Math.min.code 2 (some .int), Cond.methodLink RX5 22 arraycopyName, Cond.native arraycopyName, Cond.static arraycopyName, Cond.initialized "java/lang/System", Cond.methodLink RX2 56 yX6_copyFrom, Cond.instanceMethod yX6_copyFrom, Cond.selects RX6 yX6_copyFrom yX6_copyFrom, Cond.initialized RX6, Cond.code yX6_copyFrom cX6_copyFrom 2 none]
def wsX7_set_r3 : List Cond := [Cond.fieldLink RX6 14 "ApplauseTallies$Seats" "loudness" "LApplauseTallies$Row;", Cond.fieldLink RX6 20 "ApplauseTallies$Seats" "early" "LApplauseTallies$Row;", Cond.fieldLink RX6 23 "ApplauseTallies$Seats" "clapsTonight" "LApplauseTallies$Row;", Cond.fieldLink RX6 26 "ApplauseTallies$Seats" "clapsSoFar" "LApplauseTallies$Row;", Cond.fieldLink RX6 29 "ApplauseTallies$Seats" "clappers" "LApplauseTallies$Row;", Cond.fieldLink RX6 39 "ApplauseTallies$Seats" "clapperCount" "I", Cond.fieldLink RX6 43 "ApplauseTallies$Seats" "paid" "I", Cond.fieldLink RX6 46 "ApplauseTallies$Seats" "clappedForPiece" "I", Cond.methodLink RX6 35 yX5_copyFrom, Cond.methodLink RX2 59 yX0_copyFrom, Cond.instanceMethod yX0_copyFrom, Cond.selects RX0 yX0_copyFrom yX0_copyFrom, Cond.initialized RX0, Cond.code yX0_copyFrom cX0_copyFrom 2 none, Cond.fieldLink RX0 14 "ApplauseTallies$Encores" "owers" "LApplauseTallies$Row;", Cond.fieldLink RX0 20 "ApplauseTallies$Encores" "since" "LApplauseTallies$Row;", Cond.fieldLink RX0 23 "ApplauseTallies$Encores" "played" "LApplauseTallies$Row;", Cond.fieldLink RX0 26 "ApplauseTallies$Encores" "lapsed" "LApplauseTallies$Row;", Cond.fieldLink RX0 29 "ApplauseTallies$Encores" "pieces" "LApplauseTallies$Row;", Cond.fieldLink RX0 36 "ApplauseTallies$Encores" "owedCount" "I", Cond.methodLink RX0 32 yX5_copyFrom, Cond.methodLink RX7 47 yX2_changeSetting, Cond.instanceMethod yX2_changeSetting, Cond.selects RX2 yX2_changeSetting yX2_changeSetting]
def wsX7_set_r4 : List Cond := [Cond.code yX2_changeSetting cX2_changeSetting 4 (some .int), Cond.methodLink RX2 84 yX5_at, Cond.instanceMethod yX5_at, Cond.selects RX5 yX5_at yX5_at, Cond.code yX5_at cX5_at 2 (some .int), Cond.methodLink RX2 48 yX5_store, Cond.instanceMethod yX5_store, Cond.selects RX5 yX5_store yX5_store, Cond.code yX5_store cX5_store 3 none, Cond.methodLink RX7 51 yX1_keepUnlessError, Cond.instanceMethod yX1_keepUnlessError, Cond.selects RX1 yX1_keepUnlessError yX1_keepUnlessError, Cond.code yX1_keepUnlessError cX1_keepUnlessError 2 (some .int), Cond.fieldLink RX1 18 "ApplauseTallies$History" "kept" "I", Cond.methodLink RX1 33 Lib.Math.min.name]
def wsX7_set : List Cond := .code yX7_set cX7_set 3 (some .int) :: ((wsX7_set_r1 ++ (wsX7_set_r2 ++ (wsX7_set_r3 ++ wsX7_set_r4))) ++ wsX70 ++ wsX10 ++ wsX20 ++ wsX50 ++ wsX60 ++ wsX00)
def wsX7_loud_r1 : List Cond := [Cond.fieldLink RX7 19 "ApplauseTallies" "history" "LApplauseTallies$History;", Cond.fieldLink RX7 10 "ApplauseTallies" "house" "LApplauseTallies$House;", Cond.methodLink RX7 43 yX1_setAside, Cond.instanceMethod yX1_setAside, Cond.selects RX1 yX1_setAside yX1_setAside, Cond.initialized RX1, Cond.code yX1_setAside cX1_setAside 3 none, Cond.fieldLink RX1 22 "ApplauseTallies$History" "next" "I", Cond.methodLink RX1 25 yX1_stateAt, Cond.instanceMethod yX1_stateAt, Cond.selects RX1 yX1_stateAt yX1_stateAt, Cond.code yX1_stateAt cX1_stateAt 2 (some (.object "ApplauseTallies$House")), Cond.fieldLink RX1 13 "ApplauseTallies$History" "states" "[LApplauseTallies$House;", Cond.methodLink RX1 29 yX2_copyFrom, Cond.instanceMethod yX2_copyFrom, Cond.selects RX2 yX2_copyFrom yX2_copyFrom, Cond.initialized RX2, Cond.code yX2_copyFrom cX2_copyFrom 2 none, Cond.fieldLink RX2 14 "ApplauseTallies$House" "settings" "LApplauseTallies$Row;", Cond.fieldLink RX2 23 "ApplauseTallies$House" "seats" "LApplauseTallies$Seats;", Cond.fieldLink RX2 30 "ApplauseTallies$House" "encores" "LApplauseTallies$Encores;", Cond.fieldLink RX2 34 "ApplauseTallies$House" "tonight" "LApplauseTallies$Row;", Cond.fieldLink RX2 37 "ApplauseTallies$House" "records" "LApplauseTallies$Row;", Cond.fieldLink RX2 62 "ApplauseTallies$House" "applause" "I"]
def wsX7_loud_r2 : List Cond := [Cond.fieldLink RX2 65 "ApplauseTallies$House" "time" "I", Cond.fieldLink RX2 68 "ApplauseTallies$House" "nights" "I", Cond.fieldLink RX2 40 "ApplauseTallies$House" "pieceBy" "I", Cond.fieldLink RX2 71 "ApplauseTallies$House" "pieceEnd" "I", Cond.fieldLink RX2 74 "ApplauseTallies$House" "encoreCame" "Z", Cond.methodLink RX2 52 yX5_copyFrom, Cond.instanceMethod yX5_copyFrom, Cond.selects RX5 yX5_copyFrom yX5_copyFrom, Cond.initialized RX5, Cond.code yX5_copyFrom cX5_copyFrom 2 none, Cond.fieldLink RX5 13 "ApplauseTallies$Row" "cells" "[I", Cond.methodLink RX5 19 Lib.Math.min.name, Cond.static Lib.Math.min.name, Cond.initialized "java/lang/Math", Cond.code Lib.Math.min.name Lib.Math.min.code 2 (some .int), Cond.methodLink RX5 22 arraycopyName, Cond.native arraycopyName, Cond.static arraycopyName, Cond.initialized "java/lang/System", Cond.methodLink RX2 56 yX6_copyFrom, Cond.instanceMethod yX6_copyFrom, Cond.selects RX6 yX6_copyFrom yX6_copyFrom, Cond.initialized RX6, Cond.code yX6_copyFrom cX6_copyFrom 2 none]
def wsX7_loud_r3 : List Cond := [Cond.fieldLink RX6 14 "ApplauseTallies$Seats" "loudness" "LApplauseTallies$Row;", Cond.fieldLink RX6 20 "ApplauseTallies$Seats" "early" "LApplauseTallies$Row;", Cond.fieldLink RX6 23 "ApplauseTallies$Seats" "clapsTonight" "LApplauseTallies$Row;", Cond.fieldLink RX6 26 "ApplauseTallies$Seats" "clapsSoFar" "LApplauseTallies$Row;", Cond.fieldLink RX6 29 "ApplauseTallies$Seats" "clappers" "LApplauseTallies$Row;", Cond.fieldLink RX6 39 "ApplauseTallies$Seats" "clapperCount" "I", Cond.fieldLink RX6 43 "ApplauseTallies$Seats" "paid" "I", Cond.fieldLink RX6 46 "ApplauseTallies$Seats" "clappedForPiece" "I", Cond.methodLink RX6 35 yX5_copyFrom, Cond.methodLink RX2 59 yX0_copyFrom, Cond.instanceMethod yX0_copyFrom, Cond.selects RX0 yX0_copyFrom yX0_copyFrom, Cond.initialized RX0, Cond.code yX0_copyFrom cX0_copyFrom 2 none, Cond.fieldLink RX0 14 "ApplauseTallies$Encores" "owers" "LApplauseTallies$Row;", Cond.fieldLink RX0 20 "ApplauseTallies$Encores" "since" "LApplauseTallies$Row;", Cond.fieldLink RX0 23 "ApplauseTallies$Encores" "played" "LApplauseTallies$Row;", Cond.fieldLink RX0 26 "ApplauseTallies$Encores" "lapsed" "LApplauseTallies$Row;", Cond.fieldLink RX0 29 "ApplauseTallies$Encores" "pieces" "LApplauseTallies$Row;", Cond.fieldLink RX0 36 "ApplauseTallies$Encores" "owedCount" "I", Cond.methodLink RX0 32 yX5_copyFrom, Cond.methodLink RX7 55 yX2_changeLoudness, Cond.instanceMethod yX2_changeLoudness, Cond.selects RX2 yX2_changeLoudness yX2_changeLoudness]
def wsX7_loud_r4 : List Cond := [Cond.code yX2_changeLoudness cX2_changeLoudness 4 (some .int), Cond.static yX7_isSeat, Cond.initialized RX7, Cond.code yX7_isSeat cX7_isSeat 1 (some .boolean), Cond.methodLink RX2 84 yX5_at, Cond.instanceMethod yX5_at, Cond.selects RX5 yX5_at yX5_at, Cond.code yX5_at cX5_at 2 (some .int), Cond.methodLink RX2 48 yX5_store, Cond.instanceMethod yX5_store, Cond.selects RX5 yX5_store yX5_store, Cond.code yX5_store cX5_store 3 none, Cond.methodLink RX7 51 yX1_keepUnlessError, Cond.instanceMethod yX1_keepUnlessError, Cond.selects RX1 yX1_keepUnlessError yX1_keepUnlessError, Cond.code yX1_keepUnlessError cX1_keepUnlessError 2 (some .int), Cond.fieldLink RX1 18 "ApplauseTallies$History" "kept" "I", Cond.methodLink RX1 33 Lib.Math.min.name]
def wsX7_loud : List Cond := .code yX7_loud cX7_loud 3 (some .int) :: ((wsX7_loud_r1 ++ (wsX7_loud_r2 ++ (wsX7_loud_r3 ++ wsX7_loud_r4))) ++ wsX70 ++ wsX10 ++ wsX20 ++ wsX50 ++ wsX60 ++ wsX00)
def wsX7_pay_r1 : List Cond := [Cond.fieldLink RX7 19 "ApplauseTallies" "history" "LApplauseTallies$History;", Cond.fieldLink RX7 10 "ApplauseTallies" "house" "LApplauseTallies$House;", Cond.methodLink RX7 43 yX1_setAside, Cond.instanceMethod yX1_setAside, Cond.selects RX1 yX1_setAside yX1_setAside, Cond.initialized RX1, Cond.code yX1_setAside cX1_setAside 3 none, Cond.fieldLink RX1 22 "ApplauseTallies$History" "next" "I", Cond.methodLink RX1 25 yX1_stateAt, Cond.instanceMethod yX1_stateAt, Cond.selects RX1 yX1_stateAt yX1_stateAt, Cond.code yX1_stateAt cX1_stateAt 2 (some (.object "ApplauseTallies$House")), Cond.fieldLink RX1 13 "ApplauseTallies$History" "states" "[LApplauseTallies$House;", Cond.methodLink RX1 29 yX2_copyFrom, Cond.instanceMethod yX2_copyFrom, Cond.selects RX2 yX2_copyFrom yX2_copyFrom, Cond.initialized RX2, Cond.code yX2_copyFrom cX2_copyFrom 2 none, Cond.fieldLink RX2 14 "ApplauseTallies$House" "settings" "LApplauseTallies$Row;", Cond.fieldLink RX2 23 "ApplauseTallies$House" "seats" "LApplauseTallies$Seats;", Cond.fieldLink RX2 30 "ApplauseTallies$House" "encores" "LApplauseTallies$Encores;", Cond.fieldLink RX2 34 "ApplauseTallies$House" "tonight" "LApplauseTallies$Row;", Cond.fieldLink RX2 37 "ApplauseTallies$House" "records" "LApplauseTallies$Row;", Cond.fieldLink RX2 62 "ApplauseTallies$House" "applause" "I"]
def wsX7_pay_r2 : List Cond := [Cond.fieldLink RX2 65 "ApplauseTallies$House" "time" "I", Cond.fieldLink RX2 68 "ApplauseTallies$House" "nights" "I", Cond.fieldLink RX2 40 "ApplauseTallies$House" "pieceBy" "I", Cond.fieldLink RX2 71 "ApplauseTallies$House" "pieceEnd" "I", Cond.fieldLink RX2 74 "ApplauseTallies$House" "encoreCame" "Z", Cond.methodLink RX2 52 yX5_copyFrom, Cond.instanceMethod yX5_copyFrom, Cond.selects RX5 yX5_copyFrom yX5_copyFrom, Cond.initialized RX5, Cond.code yX5_copyFrom cX5_copyFrom 2 none, Cond.fieldLink RX5 13 "ApplauseTallies$Row" "cells" "[I", Cond.methodLink RX5 19 Lib.Math.min.name, Cond.static Lib.Math.min.name, Cond.initialized "java/lang/Math", Cond.code Lib.Math.min.name Lib.Math.min.code 2 (some .int), Cond.methodLink RX5 22 arraycopyName, Cond.native arraycopyName, Cond.static arraycopyName, Cond.initialized "java/lang/System", Cond.methodLink RX2 56 yX6_copyFrom, Cond.instanceMethod yX6_copyFrom, Cond.selects RX6 yX6_copyFrom yX6_copyFrom, Cond.initialized RX6, Cond.code yX6_copyFrom cX6_copyFrom 2 none]
def wsX7_pay_r3 : List Cond := [Cond.fieldLink RX6 14 "ApplauseTallies$Seats" "loudness" "LApplauseTallies$Row;", Cond.fieldLink RX6 20 "ApplauseTallies$Seats" "early" "LApplauseTallies$Row;", Cond.fieldLink RX6 23 "ApplauseTallies$Seats" "clapsTonight" "LApplauseTallies$Row;", Cond.fieldLink RX6 26 "ApplauseTallies$Seats" "clapsSoFar" "LApplauseTallies$Row;", Cond.fieldLink RX6 29 "ApplauseTallies$Seats" "clappers" "LApplauseTallies$Row;", Cond.fieldLink RX6 39 "ApplauseTallies$Seats" "clapperCount" "I", Cond.fieldLink RX6 43 "ApplauseTallies$Seats" "paid" "I", Cond.fieldLink RX6 46 "ApplauseTallies$Seats" "clappedForPiece" "I", Cond.methodLink RX6 35 yX5_copyFrom, Cond.methodLink RX2 59 yX0_copyFrom, Cond.instanceMethod yX0_copyFrom, Cond.selects RX0 yX0_copyFrom yX0_copyFrom, Cond.initialized RX0, Cond.code yX0_copyFrom cX0_copyFrom 2 none, Cond.fieldLink RX0 14 "ApplauseTallies$Encores" "owers" "LApplauseTallies$Row;", Cond.fieldLink RX0 20 "ApplauseTallies$Encores" "since" "LApplauseTallies$Row;", Cond.fieldLink RX0 23 "ApplauseTallies$Encores" "played" "LApplauseTallies$Row;", Cond.fieldLink RX0 26 "ApplauseTallies$Encores" "lapsed" "LApplauseTallies$Row;", Cond.fieldLink RX0 29 "ApplauseTallies$Encores" "pieces" "LApplauseTallies$Row;", Cond.fieldLink RX0 36 "ApplauseTallies$Encores" "owedCount" "I", Cond.methodLink RX0 32 yX5_copyFrom, Cond.methodLink RX7 58 yX2_switchPay, Cond.instanceMethod yX2_switchPay, Cond.selects RX2 yX2_switchPay yX2_switchPay]
def wsX7_pay_r4 : List Cond := [Cond.code yX2_switchPay cX2_switchPay 2 (some .int), Cond.static yX7_isSeat, Cond.initialized RX7, Cond.code yX7_isSeat cX7_isSeat 1 (some .boolean), Cond.methodLink RX7 51 yX1_keepUnlessError, Cond.instanceMethod yX1_keepUnlessError, Cond.selects RX1 yX1_keepUnlessError yX1_keepUnlessError, Cond.code yX1_keepUnlessError cX1_keepUnlessError 2 (some .int), Cond.fieldLink RX1 18 "ApplauseTallies$History" "kept" "I", Cond.methodLink RX1 33 Lib.Math.min.name]
def wsX7_pay : List Cond := .code yX7_pay cX7_pay 2 (some .int) :: ((wsX7_pay_r1 ++ (wsX7_pay_r2 ++ (wsX7_pay_r3 ++ wsX7_pay_r4))) ++ wsX70 ++ wsX10 ++ wsX20 ++ wsX50 ++ wsX60 ++ wsX00)
def wsX7_ends_r1 : List Cond := [Cond.fieldLink RX7 19 "ApplauseTallies" "history" "LApplauseTallies$History;", Cond.fieldLink RX7 10 "ApplauseTallies" "house" "LApplauseTallies$House;", Cond.methodLink RX7 43 yX1_setAside, Cond.instanceMethod yX1_setAside, Cond.selects RX1 yX1_setAside yX1_setAside, Cond.initialized RX1, Cond.code yX1_setAside cX1_setAside 3 none, Cond.fieldLink RX1 22 "ApplauseTallies$History" "next" "I", Cond.methodLink RX1 25 yX1_stateAt, Cond.instanceMethod yX1_stateAt, Cond.selects RX1 yX1_stateAt yX1_stateAt, Cond.code yX1_stateAt cX1_stateAt 2 (some (.object "ApplauseTallies$House")), Cond.fieldLink RX1 13 "ApplauseTallies$History" "states" "[LApplauseTallies$House;", Cond.methodLink RX1 29 yX2_copyFrom, Cond.instanceMethod yX2_copyFrom, Cond.selects RX2 yX2_copyFrom yX2_copyFrom, Cond.initialized RX2, Cond.code yX2_copyFrom cX2_copyFrom 2 none, Cond.fieldLink RX2 14 "ApplauseTallies$House" "settings" "LApplauseTallies$Row;", Cond.fieldLink RX2 23 "ApplauseTallies$House" "seats" "LApplauseTallies$Seats;", Cond.fieldLink RX2 30 "ApplauseTallies$House" "encores" "LApplauseTallies$Encores;", Cond.fieldLink RX2 34 "ApplauseTallies$House" "tonight" "LApplauseTallies$Row;", Cond.fieldLink RX2 37 "ApplauseTallies$House" "records" "LApplauseTallies$Row;", Cond.fieldLink RX2 62 "ApplauseTallies$House" "applause" "I"]
def wsX7_ends_r2 : List Cond := [Cond.fieldLink RX2 65 "ApplauseTallies$House" "time" "I", Cond.fieldLink RX2 68 "ApplauseTallies$House" "nights" "I", Cond.fieldLink RX2 40 "ApplauseTallies$House" "pieceBy" "I", Cond.fieldLink RX2 71 "ApplauseTallies$House" "pieceEnd" "I", Cond.fieldLink RX2 74 "ApplauseTallies$House" "encoreCame" "Z", Cond.methodLink RX2 52 yX5_copyFrom, Cond.instanceMethod yX5_copyFrom, Cond.selects RX5 yX5_copyFrom yX5_copyFrom, Cond.initialized RX5, Cond.code yX5_copyFrom cX5_copyFrom 2 none, Cond.fieldLink RX5 13 "ApplauseTallies$Row" "cells" "[I", Cond.methodLink RX5 19 Lib.Math.min.name, Cond.static Lib.Math.min.name, Cond.initialized "java/lang/Math", Cond.code Lib.Math.min.name Lib.Math.min.code 2 (some .int), Cond.methodLink RX5 22 arraycopyName, Cond.native arraycopyName, Cond.static arraycopyName, Cond.initialized "java/lang/System", Cond.methodLink RX2 56 yX6_copyFrom, Cond.instanceMethod yX6_copyFrom, Cond.selects RX6 yX6_copyFrom yX6_copyFrom, Cond.initialized RX6, Cond.code yX6_copyFrom cX6_copyFrom 2 none]
def wsX7_ends_r3 : List Cond := [Cond.fieldLink RX6 14 "ApplauseTallies$Seats" "loudness" "LApplauseTallies$Row;", Cond.fieldLink RX6 20 "ApplauseTallies$Seats" "early" "LApplauseTallies$Row;", Cond.fieldLink RX6 23 "ApplauseTallies$Seats" "clapsTonight" "LApplauseTallies$Row;", Cond.fieldLink RX6 26 "ApplauseTallies$Seats" "clapsSoFar" "LApplauseTallies$Row;", Cond.fieldLink RX6 29 "ApplauseTallies$Seats" "clappers" "LApplauseTallies$Row;", Cond.fieldLink RX6 39 "ApplauseTallies$Seats" "clapperCount" "I", Cond.fieldLink RX6 43 "ApplauseTallies$Seats" "paid" "I", Cond.fieldLink RX6 46 "ApplauseTallies$Seats" "clappedForPiece" "I", Cond.methodLink RX6 35 yX5_copyFrom, Cond.methodLink RX2 59 yX0_copyFrom, Cond.instanceMethod yX0_copyFrom, Cond.selects RX0 yX0_copyFrom yX0_copyFrom, Cond.initialized RX0, Cond.code yX0_copyFrom cX0_copyFrom 2 none, Cond.fieldLink RX0 14 "ApplauseTallies$Encores" "owers" "LApplauseTallies$Row;", Cond.fieldLink RX0 20 "ApplauseTallies$Encores" "since" "LApplauseTallies$Row;", Cond.fieldLink RX0 23 "ApplauseTallies$Encores" "played" "LApplauseTallies$Row;", Cond.fieldLink RX0 26 "ApplauseTallies$Encores" "lapsed" "LApplauseTallies$Row;", Cond.fieldLink RX0 29 "ApplauseTallies$Encores" "pieces" "LApplauseTallies$Row;", Cond.fieldLink RX0 36 "ApplauseTallies$Encores" "owedCount" "I", Cond.methodLink RX0 32 yX5_copyFrom, Cond.methodLink RX7 61 yX2_endPiece, Cond.instanceMethod yX2_endPiece, Cond.selects RX2 yX2_endPiece yX2_endPiece]
def wsX7_ends_r4 : List Cond := [Cond.code yX2_endPiece cX2_endPiece 3 (some .int), Cond.static yX7_isPerformer, Cond.initialized RX7, Cond.code yX7_isPerformer cX7_isPerformer 1 (some .boolean), Cond.methodLink RX2 101 yX2_beginApplause, Cond.instanceMethod yX2_beginApplause, Cond.selects RX2 yX2_beginApplause yX2_beginApplause, Cond.code yX2_beginApplause cX2_beginApplause 2 none, Cond.methodLink RX2 107 yX5_add, Cond.instanceMethod yX5_add, Cond.selects RX5 yX5_add yX5_add, Cond.code yX5_add cX5_add 3 none, Cond.methodLink RX2 110 yX6_beginPiece, Cond.instanceMethod yX6_beginPiece, Cond.selects RX6 yX6_beginPiece yX6_beginPiece, Cond.code yX6_beginPiece cX6_beginPiece 1 none, Cond.methodLink RX7 51 yX1_keepUnlessError, Cond.instanceMethod yX1_keepUnlessError, Cond.selects RX1 yX1_keepUnlessError yX1_keepUnlessError, Cond.code yX1_keepUnlessError cX1_keepUnlessError 2 (some .int), Cond.fieldLink RX1 18 "ApplauseTallies$History" "kept" "I", Cond.methodLink RX1 33 Lib.Math.min.name]
def wsX7_ends : List Cond := .code yX7_ends cX7_ends 2 (some .int) :: ((wsX7_ends_r1 ++ (wsX7_ends_r2 ++ (wsX7_ends_r3 ++ wsX7_ends_r4))) ++ wsX70 ++ wsX10 ++ wsX20 ++ wsX50 ++ wsX60 ++ wsX00)
def wsX7_clap_r1 : List Cond := [Cond.fieldLink RX7 19 "ApplauseTallies" "history" "LApplauseTallies$History;", Cond.fieldLink RX7 10 "ApplauseTallies" "house" "LApplauseTallies$House;", Cond.methodLink RX7 43 yX1_setAside, Cond.instanceMethod yX1_setAside, Cond.selects RX1 yX1_setAside yX1_setAside, Cond.initialized RX1, Cond.code yX1_setAside cX1_setAside 3 none, Cond.fieldLink RX1 22 "ApplauseTallies$History" "next" "I", Cond.methodLink RX1 25 yX1_stateAt, Cond.instanceMethod yX1_stateAt, Cond.selects RX1 yX1_stateAt yX1_stateAt, Cond.code yX1_stateAt cX1_stateAt 2 (some (.object "ApplauseTallies$House")), Cond.fieldLink RX1 13 "ApplauseTallies$History" "states" "[LApplauseTallies$House;", Cond.methodLink RX1 29 yX2_copyFrom, Cond.instanceMethod yX2_copyFrom, Cond.selects RX2 yX2_copyFrom yX2_copyFrom, Cond.initialized RX2, Cond.code yX2_copyFrom cX2_copyFrom 2 none, Cond.fieldLink RX2 14 "ApplauseTallies$House" "settings" "LApplauseTallies$Row;", Cond.fieldLink RX2 23 "ApplauseTallies$House" "seats" "LApplauseTallies$Seats;", Cond.fieldLink RX2 30 "ApplauseTallies$House" "encores" "LApplauseTallies$Encores;", Cond.fieldLink RX2 34 "ApplauseTallies$House" "tonight" "LApplauseTallies$Row;", Cond.fieldLink RX2 37 "ApplauseTallies$House" "records" "LApplauseTallies$Row;", Cond.fieldLink RX2 62 "ApplauseTallies$House" "applause" "I"]
def wsX7_clap_r2 : List Cond := [Cond.fieldLink RX2 65 "ApplauseTallies$House" "time" "I", Cond.fieldLink RX2 68 "ApplauseTallies$House" "nights" "I", Cond.fieldLink RX2 40 "ApplauseTallies$House" "pieceBy" "I", Cond.fieldLink RX2 71 "ApplauseTallies$House" "pieceEnd" "I", Cond.fieldLink RX2 74 "ApplauseTallies$House" "encoreCame" "Z", Cond.methodLink RX2 52 yX5_copyFrom, Cond.instanceMethod yX5_copyFrom, Cond.selects RX5 yX5_copyFrom yX5_copyFrom, Cond.initialized RX5, Cond.code yX5_copyFrom cX5_copyFrom 2 none, Cond.fieldLink RX5 13 "ApplauseTallies$Row" "cells" "[I", Cond.methodLink RX5 19 Lib.Math.min.name, Cond.static Lib.Math.min.name, Cond.initialized "java/lang/Math", Cond.code Lib.Math.min.name Lib.Math.min.code 2 (some .int), Cond.methodLink RX5 22 arraycopyName, Cond.native arraycopyName, Cond.static arraycopyName, Cond.initialized "java/lang/System", Cond.methodLink RX2 56 yX6_copyFrom, Cond.instanceMethod yX6_copyFrom, Cond.selects RX6 yX6_copyFrom yX6_copyFrom, Cond.initialized RX6, Cond.code yX6_copyFrom cX6_copyFrom 2 none]
def wsX7_clap_r3 : List Cond := [Cond.fieldLink RX6 14 "ApplauseTallies$Seats" "loudness" "LApplauseTallies$Row;", Cond.fieldLink RX6 20 "ApplauseTallies$Seats" "early" "LApplauseTallies$Row;", Cond.fieldLink RX6 23 "ApplauseTallies$Seats" "clapsTonight" "LApplauseTallies$Row;", Cond.fieldLink RX6 26 "ApplauseTallies$Seats" "clapsSoFar" "LApplauseTallies$Row;", Cond.fieldLink RX6 29 "ApplauseTallies$Seats" "clappers" "LApplauseTallies$Row;", Cond.fieldLink RX6 39 "ApplauseTallies$Seats" "clapperCount" "I", Cond.fieldLink RX6 43 "ApplauseTallies$Seats" "paid" "I", Cond.fieldLink RX6 46 "ApplauseTallies$Seats" "clappedForPiece" "I", Cond.methodLink RX6 35 yX5_copyFrom, Cond.methodLink RX2 59 yX0_copyFrom, Cond.instanceMethod yX0_copyFrom, Cond.selects RX0 yX0_copyFrom yX0_copyFrom, Cond.initialized RX0, Cond.code yX0_copyFrom cX0_copyFrom 2 none, Cond.fieldLink RX0 14 "ApplauseTallies$Encores" "owers" "LApplauseTallies$Row;", Cond.fieldLink RX0 20 "ApplauseTallies$Encores" "since" "LApplauseTallies$Row;", Cond.fieldLink RX0 23 "ApplauseTallies$Encores" "played" "LApplauseTallies$Row;", Cond.fieldLink RX0 26 "ApplauseTallies$Encores" "lapsed" "LApplauseTallies$Row;", Cond.fieldLink RX0 29 "ApplauseTallies$Encores" "pieces" "LApplauseTallies$Row;", Cond.fieldLink RX0 36 "ApplauseTallies$Encores" "owedCount" "I", Cond.methodLink RX0 32 yX5_copyFrom, Cond.methodLink RX7 64 yX2_takeClap, Cond.instanceMethod yX2_takeClap, Cond.selects RX2 yX2_takeClap yX2_takeClap]
def wsX7_clap_r4 : List Cond := [Cond.code yX2_takeClap cX2_takeClap 2 (some .int), Cond.methodLink RX2 117 Lib.Math.min.name, Cond.static yX7_isSeat, Cond.initialized RX7, Cond.code yX7_isSeat cX7_isSeat 1 (some .boolean), Cond.methodLink RX2 84 yX5_at, Cond.instanceMethod yX5_at, Cond.selects RX5 yX5_at yX5_at, Cond.code yX5_at cX5_at 2 (some .int), Cond.methodLink RX2 113 yX6_addClap, Cond.instanceMethod yX6_addClap, Cond.selects RX6 yX6_addClap yX6_addClap, Cond.code yX6_addClap cX6_addClap 3 none, Cond.methodLink RX6 49 yX6_hasClapped, Cond.instanceMethod yX6_hasClapped, Cond.selects RX6 yX6_hasClapped yX6_hasClapped, Cond.code yX6_hasClapped cX6_hasClapped 2 (some .boolean), Cond.methodLink RX6 53 yX5_add, Cond.instanceMethod yX5_add, Cond.selects RX5 yX5_add yX5_add, Cond.code yX5_add cX5_add 3 none, Cond.methodLink RX6 57 yX5_at, Cond.methodLink RX6 61 yX5_store, Cond.instanceMethod yX5_store]
def wsX7_clap_r5 : List Cond := [Cond.selects RX5 yX5_store yX5_store, Cond.code yX5_store cX5_store 3 none, Cond.methodLink RX2 107 yX5_add, Cond.methodLink RX2 123 yX2_bringEncore, Cond.instanceMethod yX2_bringEncore, Cond.selects RX2 yX2_bringEncore yX2_bringEncore, Cond.code yX2_bringEncore cX2_bringEncore 1 none, Cond.methodLink RX2 126 yX0_owe, Cond.instanceMethod yX0_owe, Cond.selects RX0 yX0_owe yX0_owe, Cond.code yX0_owe cX0_owe 3 (some .boolean), Cond.methodLink RX0 40 yX5_add, Cond.methodLink RX0 44 yX5_store, Cond.methodLink RX7 51 yX1_keepUnlessError, Cond.instanceMethod yX1_keepUnlessError, Cond.selects RX1 yX1_keepUnlessError yX1_keepUnlessError, Cond.code yX1_keepUnlessError cX1_keepUnlessError 2 (some .int), Cond.fieldLink RX1 18 "ApplauseTallies$History" "kept" "I", Cond.methodLink RX1 33 Lib.Math.min.name]
def wsX7_clap : List Cond := .code yX7_clap cX7_clap 2 (some .int) :: ((wsX7_clap_r1 ++ (wsX7_clap_r2 ++ (wsX7_clap_r3 ++ (wsX7_clap_r4 ++ wsX7_clap_r5)))) ++ wsX70 ++ wsX10 ++ wsX20 ++ wsX50 ++ wsX60 ++ wsX00)
def wsX7_pass_r1 : List Cond := [Cond.fieldLink RX7 19 "ApplauseTallies" "history" "LApplauseTallies$History;", Cond.fieldLink RX7 10 "ApplauseTallies" "house" "LApplauseTallies$House;", Cond.methodLink RX7 43 yX1_setAside, Cond.instanceMethod yX1_setAside, Cond.selects RX1 yX1_setAside yX1_setAside, Cond.initialized RX1, Cond.code yX1_setAside cX1_setAside 3 none, Cond.fieldLink RX1 22 "ApplauseTallies$History" "next" "I", Cond.methodLink RX1 25 yX1_stateAt, Cond.instanceMethod yX1_stateAt, Cond.selects RX1 yX1_stateAt yX1_stateAt, Cond.code yX1_stateAt cX1_stateAt 2 (some (.object "ApplauseTallies$House")), Cond.fieldLink RX1 13 "ApplauseTallies$History" "states" "[LApplauseTallies$House;", Cond.methodLink RX1 29 yX2_copyFrom, Cond.instanceMethod yX2_copyFrom, Cond.selects RX2 yX2_copyFrom yX2_copyFrom, Cond.initialized RX2, Cond.code yX2_copyFrom cX2_copyFrom 2 none, Cond.fieldLink RX2 14 "ApplauseTallies$House" "settings" "LApplauseTallies$Row;", Cond.fieldLink RX2 23 "ApplauseTallies$House" "seats" "LApplauseTallies$Seats;", Cond.fieldLink RX2 30 "ApplauseTallies$House" "encores" "LApplauseTallies$Encores;", Cond.fieldLink RX2 34 "ApplauseTallies$House" "tonight" "LApplauseTallies$Row;", Cond.fieldLink RX2 37 "ApplauseTallies$House" "records" "LApplauseTallies$Row;", Cond.fieldLink RX2 62 "ApplauseTallies$House" "applause" "I"]
def wsX7_pass_r2 : List Cond := [Cond.fieldLink RX2 65 "ApplauseTallies$House" "time" "I", Cond.fieldLink RX2 68 "ApplauseTallies$House" "nights" "I", Cond.fieldLink RX2 40 "ApplauseTallies$House" "pieceBy" "I", Cond.fieldLink RX2 71 "ApplauseTallies$House" "pieceEnd" "I", Cond.fieldLink RX2 74 "ApplauseTallies$House" "encoreCame" "Z", Cond.methodLink RX2 52 yX5_copyFrom, Cond.instanceMethod yX5_copyFrom, Cond.selects RX5 yX5_copyFrom yX5_copyFrom, Cond.initialized RX5, Cond.code yX5_copyFrom cX5_copyFrom 2 none, Cond.fieldLink RX5 13 "ApplauseTallies$Row" "cells" "[I", Cond.methodLink RX5 19 Lib.Math.min.name, Cond.static Lib.Math.min.name, Cond.initialized "java/lang/Math", Cond.code Lib.Math.min.name Lib.Math.min.code 2 (some .int), Cond.methodLink RX5 22 arraycopyName, Cond.native arraycopyName, Cond.static arraycopyName, Cond.initialized "java/lang/System", Cond.methodLink RX2 56 yX6_copyFrom, Cond.instanceMethod yX6_copyFrom, Cond.selects RX6 yX6_copyFrom yX6_copyFrom, Cond.initialized RX6, Cond.code yX6_copyFrom cX6_copyFrom 2 none]
def wsX7_pass_r3 : List Cond := [Cond.fieldLink RX6 14 "ApplauseTallies$Seats" "loudness" "LApplauseTallies$Row;", Cond.fieldLink RX6 20 "ApplauseTallies$Seats" "early" "LApplauseTallies$Row;", Cond.fieldLink RX6 23 "ApplauseTallies$Seats" "clapsTonight" "LApplauseTallies$Row;", Cond.fieldLink RX6 26 "ApplauseTallies$Seats" "clapsSoFar" "LApplauseTallies$Row;", Cond.fieldLink RX6 29 "ApplauseTallies$Seats" "clappers" "LApplauseTallies$Row;", Cond.fieldLink RX6 39 "ApplauseTallies$Seats" "clapperCount" "I", Cond.fieldLink RX6 43 "ApplauseTallies$Seats" "paid" "I", Cond.fieldLink RX6 46 "ApplauseTallies$Seats" "clappedForPiece" "I", Cond.methodLink RX6 35 yX5_copyFrom, Cond.methodLink RX2 59 yX0_copyFrom, Cond.instanceMethod yX0_copyFrom, Cond.selects RX0 yX0_copyFrom yX0_copyFrom, Cond.initialized RX0, Cond.code yX0_copyFrom cX0_copyFrom 2 none, Cond.fieldLink RX0 14 "ApplauseTallies$Encores" "owers" "LApplauseTallies$Row;", Cond.fieldLink RX0 20 "ApplauseTallies$Encores" "since" "LApplauseTallies$Row;", Cond.fieldLink RX0 23 "ApplauseTallies$Encores" "played" "LApplauseTallies$Row;", Cond.fieldLink RX0 26 "ApplauseTallies$Encores" "lapsed" "LApplauseTallies$Row;", Cond.fieldLink RX0 29 "ApplauseTallies$Encores" "pieces" "LApplauseTallies$Row;", Cond.fieldLink RX0 36 "ApplauseTallies$Encores" "owedCount" "I", Cond.methodLink RX0 32 yX5_copyFrom, Cond.methodLink RX7 67 yX2_letPass, Cond.instanceMethod yX2_letPass, Cond.selects RX2 yX2_letPass yX2_letPass]
def wsX7_pass_r4 : List Cond := [Cond.code yX2_letPass cX2_letPass 3 (some .int), Cond.constant RX2 130 (99999), Cond.methodLink RX2 84 yX5_at, Cond.instanceMethod yX5_at, Cond.selects RX5 yX5_at yX5_at, Cond.code yX5_at cX5_at 2 (some .int), Cond.static yX7_afterSecond, Cond.initialized RX7, Cond.code yX7_afterSecond cX7_afterSecond 2 (some .int), Cond.methodLink RX7 176 Lib.Math.max.name, Cond.static Lib.Math.max.name, Cond.code Lib.Math.max.name Lib.Math.max.code 2 (some .int), Cond.methodLink RX2 134 yX0_lapseSince, Cond.instanceMethod yX0_lapseSince, Cond.selects RX0 yX0_lapseSince yX0_lapseSince, Cond.code yX0_lapseSince cX0_lapseSince 4 (some .int), Cond.methodLink RX0 47 yX5_at, Cond.methodLink RX0 40 yX5_add, Cond.instanceMethod yX5_add, Cond.selects RX5 yX5_add yX5_add, Cond.code yX5_add cX5_add 3 none, Cond.methodLink RX0 44 yX5_store, Cond.instanceMethod yX5_store, Cond.selects RX5 yX5_store yX5_store]
def wsX7_pass_r5 : List Cond := [Cond.code yX5_store cX5_store 3 none, Cond.methodLink RX2 107 yX5_add, Cond.methodLink RX7 51 yX1_keepUnlessError, Cond.instanceMethod yX1_keepUnlessError, Cond.selects RX1 yX1_keepUnlessError yX1_keepUnlessError, Cond.code yX1_keepUnlessError cX1_keepUnlessError 2 (some .int), Cond.fieldLink RX1 18 "ApplauseTallies$History" "kept" "I", Cond.methodLink RX1 33 Lib.Math.min.name]
def wsX7_pass : List Cond := .code yX7_pass cX7_pass 2 (some .int) :: ((wsX7_pass_r1 ++ (wsX7_pass_r2 ++ (wsX7_pass_r3 ++ (wsX7_pass_r4 ++ wsX7_pass_r5)))) ++ wsX70 ++ wsX10 ++ wsX20 ++ wsX50 ++ wsX60 ++ wsX00)
def wsX7_play_r1 : List Cond := [Cond.fieldLink RX7 19 "ApplauseTallies" "history" "LApplauseTallies$History;", Cond.fieldLink RX7 10 "ApplauseTallies" "house" "LApplauseTallies$House;", Cond.methodLink RX7 43 yX1_setAside, Cond.instanceMethod yX1_setAside, Cond.selects RX1 yX1_setAside yX1_setAside, Cond.initialized RX1, Cond.code yX1_setAside cX1_setAside 3 none, Cond.fieldLink RX1 22 "ApplauseTallies$History" "next" "I", Cond.methodLink RX1 25 yX1_stateAt, Cond.instanceMethod yX1_stateAt, Cond.selects RX1 yX1_stateAt yX1_stateAt, Cond.code yX1_stateAt cX1_stateAt 2 (some (.object "ApplauseTallies$House")), Cond.fieldLink RX1 13 "ApplauseTallies$History" "states" "[LApplauseTallies$House;", Cond.methodLink RX1 29 yX2_copyFrom, Cond.instanceMethod yX2_copyFrom, Cond.selects RX2 yX2_copyFrom yX2_copyFrom, Cond.initialized RX2, Cond.code yX2_copyFrom cX2_copyFrom 2 none, Cond.fieldLink RX2 14 "ApplauseTallies$House" "settings" "LApplauseTallies$Row;", Cond.fieldLink RX2 23 "ApplauseTallies$House" "seats" "LApplauseTallies$Seats;", Cond.fieldLink RX2 30 "ApplauseTallies$House" "encores" "LApplauseTallies$Encores;", Cond.fieldLink RX2 34 "ApplauseTallies$House" "tonight" "LApplauseTallies$Row;", Cond.fieldLink RX2 37 "ApplauseTallies$House" "records" "LApplauseTallies$Row;", Cond.fieldLink RX2 62 "ApplauseTallies$House" "applause" "I"]
def wsX7_play_r2 : List Cond := [Cond.fieldLink RX2 65 "ApplauseTallies$House" "time" "I", Cond.fieldLink RX2 68 "ApplauseTallies$House" "nights" "I", Cond.fieldLink RX2 40 "ApplauseTallies$House" "pieceBy" "I", Cond.fieldLink RX2 71 "ApplauseTallies$House" "pieceEnd" "I", Cond.fieldLink RX2 74 "ApplauseTallies$House" "encoreCame" "Z", Cond.methodLink RX2 52 yX5_copyFrom, Cond.instanceMethod yX5_copyFrom, Cond.selects RX5 yX5_copyFrom yX5_copyFrom, Cond.initialized RX5, Cond.code yX5_copyFrom cX5_copyFrom 2 none, Cond.fieldLink RX5 13 "ApplauseTallies$Row" "cells" "[I", Cond.methodLink RX5 19 Lib.Math.min.name, Cond.static Lib.Math.min.name, Cond.initialized "java/lang/Math", Cond.code Lib.Math.min.name Lib.Math.min.code 2 (some .int), Cond.methodLink RX5 22 arraycopyName, Cond.native arraycopyName, Cond.static arraycopyName, Cond.initialized "java/lang/System", Cond.methodLink RX2 56 yX6_copyFrom, Cond.instanceMethod yX6_copyFrom, Cond.selects RX6 yX6_copyFrom yX6_copyFrom, Cond.initialized RX6, Cond.code yX6_copyFrom cX6_copyFrom 2 none]
def wsX7_play_r3 : List Cond := [Cond.fieldLink RX6 14 "ApplauseTallies$Seats" "loudness" "LApplauseTallies$Row;", Cond.fieldLink RX6 20 "ApplauseTallies$Seats" "early" "LApplauseTallies$Row;", Cond.fieldLink RX6 23 "ApplauseTallies$Seats" "clapsTonight" "LApplauseTallies$Row;", Cond.fieldLink RX6 26 "ApplauseTallies$Seats" "clapsSoFar" "LApplauseTallies$Row;", Cond.fieldLink RX6 29 "ApplauseTallies$Seats" "clappers" "LApplauseTallies$Row;", Cond.fieldLink RX6 39 "ApplauseTallies$Seats" "clapperCount" "I", Cond.fieldLink RX6 43 "ApplauseTallies$Seats" "paid" "I", Cond.fieldLink RX6 46 "ApplauseTallies$Seats" "clappedForPiece" "I", Cond.methodLink RX6 35 yX5_copyFrom, Cond.methodLink RX2 59 yX0_copyFrom, Cond.instanceMethod yX0_copyFrom, Cond.selects RX0 yX0_copyFrom yX0_copyFrom, Cond.initialized RX0, Cond.code yX0_copyFrom cX0_copyFrom 2 none, Cond.fieldLink RX0 14 "ApplauseTallies$Encores" "owers" "LApplauseTallies$Row;", Cond.fieldLink RX0 20 "ApplauseTallies$Encores" "since" "LApplauseTallies$Row;", Cond.fieldLink RX0 23 "ApplauseTallies$Encores" "played" "LApplauseTallies$Row;", Cond.fieldLink RX0 26 "ApplauseTallies$Encores" "lapsed" "LApplauseTallies$Row;", Cond.fieldLink RX0 29 "ApplauseTallies$Encores" "pieces" "LApplauseTallies$Row;", Cond.fieldLink RX0 36 "ApplauseTallies$Encores" "owedCount" "I", Cond.methodLink RX0 32 yX5_copyFrom, Cond.methodLink RX7 70 yX2_playEncore, Cond.instanceMethod yX2_playEncore, Cond.selects RX2 yX2_playEncore yX2_playEncore]
def wsX7_play_r4 : List Cond := [Cond.code yX2_playEncore cX2_playEncore 2 (some .int), Cond.static yX7_isPerformer, Cond.initialized RX7, Cond.code yX7_isPerformer cX7_isPerformer 1 (some .boolean), Cond.methodLink RX2 137 yX0_playEarliestOf, Cond.instanceMethod yX0_playEarliestOf, Cond.selects RX0 yX0_playEarliestOf yX0_playEarliestOf, Cond.code yX0_playEarliestOf cX0_playEarliestOf 4 (some .boolean), Cond.methodLink RX0 51 yX0_earliestOf, Cond.instanceMethod yX0_earliestOf, Cond.selects RX0 yX0_earliestOf yX0_earliestOf, Cond.code yX0_earliestOf cX0_earliestOf 3 (some .int), Cond.methodLink RX0 47 yX5_at, Cond.instanceMethod yX5_at, Cond.selects RX5 yX5_at yX5_at, Cond.code yX5_at cX5_at 2 (some .int), Cond.methodLink RX0 44 yX5_store, Cond.instanceMethod yX5_store, Cond.selects RX5 yX5_store yX5_store, Cond.code yX5_store cX5_store 3 none, Cond.methodLink RX0 40 yX5_add, Cond.instanceMethod yX5_add, Cond.selects RX5 yX5_add yX5_add, Cond.code yX5_add cX5_add 3 none]
def wsX7_play_r5 : List Cond := [Cond.methodLink RX2 107 yX5_add, Cond.methodLink RX2 101 yX2_beginApplause, Cond.instanceMethod yX2_beginApplause, Cond.selects RX2 yX2_beginApplause yX2_beginApplause, Cond.code yX2_beginApplause cX2_beginApplause 2 none, Cond.methodLink RX2 110 yX6_beginPiece, Cond.instanceMethod yX6_beginPiece, Cond.selects RX6 yX6_beginPiece yX6_beginPiece, Cond.code yX6_beginPiece cX6_beginPiece 1 none, Cond.methodLink RX2 140 yX0_owedBy, Cond.instanceMethod yX0_owedBy, Cond.selects RX0 yX0_owedBy yX0_owedBy, Cond.code yX0_owedBy cX0_owedBy 4 (some .int), Cond.methodLink RX7 51 yX1_keepUnlessError, Cond.instanceMethod yX1_keepUnlessError, Cond.selects RX1 yX1_keepUnlessError yX1_keepUnlessError, Cond.code yX1_keepUnlessError cX1_keepUnlessError 2 (some .int), Cond.fieldLink RX1 18 "ApplauseTallies$History" "kept" "I", Cond.methodLink RX1 33 Lib.Math.min.name]
def wsX7_play : List Cond := .code yX7_play cX7_play 2 (some .int) :: ((wsX7_play_r1 ++ (wsX7_play_r2 ++ (wsX7_play_r3 ++ (wsX7_play_r4 ++ wsX7_play_r5)))) ++ wsX70 ++ wsX10 ++ wsX20 ++ wsX50 ++ wsX60 ++ wsX00)
def wsX7_call_r1 : List Cond := [Cond.fieldLink RX7 19 "ApplauseTallies" "history" "LApplauseTallies$History;", Cond.fieldLink RX7 10 "ApplauseTallies" "house" "LApplauseTallies$House;", Cond.methodLink RX7 43 yX1_setAside, Cond.instanceMethod yX1_setAside, Cond.selects RX1 yX1_setAside yX1_setAside, Cond.initialized RX1, Cond.code yX1_setAside cX1_setAside 3 none, Cond.fieldLink RX1 22 "ApplauseTallies$History" "next" "I", Cond.methodLink RX1 25 yX1_stateAt, Cond.instanceMethod yX1_stateAt, Cond.selects RX1 yX1_stateAt yX1_stateAt, Cond.code yX1_stateAt cX1_stateAt 2 (some (.object "ApplauseTallies$House")), Cond.fieldLink RX1 13 "ApplauseTallies$History" "states" "[LApplauseTallies$House;", Cond.methodLink RX1 29 yX2_copyFrom, Cond.instanceMethod yX2_copyFrom, Cond.selects RX2 yX2_copyFrom yX2_copyFrom, Cond.initialized RX2, Cond.code yX2_copyFrom cX2_copyFrom 2 none, Cond.fieldLink RX2 14 "ApplauseTallies$House" "settings" "LApplauseTallies$Row;", Cond.fieldLink RX2 23 "ApplauseTallies$House" "seats" "LApplauseTallies$Seats;", Cond.fieldLink RX2 30 "ApplauseTallies$House" "encores" "LApplauseTallies$Encores;", Cond.fieldLink RX2 34 "ApplauseTallies$House" "tonight" "LApplauseTallies$Row;", Cond.fieldLink RX2 37 "ApplauseTallies$House" "records" "LApplauseTallies$Row;", Cond.fieldLink RX2 62 "ApplauseTallies$House" "applause" "I"]
def wsX7_call_r2 : List Cond := [Cond.fieldLink RX2 65 "ApplauseTallies$House" "time" "I", Cond.fieldLink RX2 68 "ApplauseTallies$House" "nights" "I", Cond.fieldLink RX2 40 "ApplauseTallies$House" "pieceBy" "I", Cond.fieldLink RX2 71 "ApplauseTallies$House" "pieceEnd" "I", Cond.fieldLink RX2 74 "ApplauseTallies$House" "encoreCame" "Z", Cond.methodLink RX2 52 yX5_copyFrom, Cond.instanceMethod yX5_copyFrom, Cond.selects RX5 yX5_copyFrom yX5_copyFrom, Cond.initialized RX5, Cond.code yX5_copyFrom cX5_copyFrom 2 none, Cond.fieldLink RX5 13 "ApplauseTallies$Row" "cells" "[I", Cond.methodLink RX5 19 Lib.Math.min.name, Cond.static Lib.Math.min.name, Cond.initialized "java/lang/Math", Cond.code Lib.Math.min.name Lib.Math.min.code 2 (some .int), Cond.methodLink RX5 22 arraycopyName, Cond.native arraycopyName, Cond.static arraycopyName, Cond.initialized "java/lang/System", Cond.methodLink RX2 56 yX6_copyFrom, Cond.instanceMethod yX6_copyFrom, Cond.selects RX6 yX6_copyFrom yX6_copyFrom, Cond.initialized RX6, Cond.code yX6_copyFrom cX6_copyFrom 2 none]
def wsX7_call_r3 : List Cond := [Cond.fieldLink RX6 14 "ApplauseTallies$Seats" "loudness" "LApplauseTallies$Row;", Cond.fieldLink RX6 20 "ApplauseTallies$Seats" "early" "LApplauseTallies$Row;", Cond.fieldLink RX6 23 "ApplauseTallies$Seats" "clapsTonight" "LApplauseTallies$Row;", Cond.fieldLink RX6 26 "ApplauseTallies$Seats" "clapsSoFar" "LApplauseTallies$Row;", Cond.fieldLink RX6 29 "ApplauseTallies$Seats" "clappers" "LApplauseTallies$Row;", Cond.fieldLink RX6 39 "ApplauseTallies$Seats" "clapperCount" "I", Cond.fieldLink RX6 43 "ApplauseTallies$Seats" "paid" "I", Cond.fieldLink RX6 46 "ApplauseTallies$Seats" "clappedForPiece" "I", Cond.methodLink RX6 35 yX5_copyFrom, Cond.methodLink RX2 59 yX0_copyFrom, Cond.instanceMethod yX0_copyFrom, Cond.selects RX0 yX0_copyFrom yX0_copyFrom, Cond.initialized RX0, Cond.code yX0_copyFrom cX0_copyFrom 2 none, Cond.fieldLink RX0 14 "ApplauseTallies$Encores" "owers" "LApplauseTallies$Row;", Cond.fieldLink RX0 20 "ApplauseTallies$Encores" "since" "LApplauseTallies$Row;", Cond.fieldLink RX0 23 "ApplauseTallies$Encores" "played" "LApplauseTallies$Row;", Cond.fieldLink RX0 26 "ApplauseTallies$Encores" "lapsed" "LApplauseTallies$Row;", Cond.fieldLink RX0 29 "ApplauseTallies$Encores" "pieces" "LApplauseTallies$Row;", Cond.fieldLink RX0 36 "ApplauseTallies$Encores" "owedCount" "I", Cond.methodLink RX0 32 yX5_copyFrom, Cond.methodLink RX7 73 yX2_takeCurtain, Cond.instanceMethod yX2_takeCurtain, Cond.selects RX2 yX2_takeCurtain yX2_takeCurtain]
def wsX7_call_r4 : List Cond := [Cond.code yX2_takeCurtain cX2_takeCurtain 1 (some .int), Cond.methodLink RX2 84 yX5_at, Cond.instanceMethod yX5_at, Cond.selects RX5 yX5_at yX5_at, Cond.code yX5_at cX5_at 2 (some .int), Cond.methodLink RX2 107 yX5_add, Cond.instanceMethod yX5_add, Cond.selects RX5 yX5_add yX5_add, Cond.code yX5_add cX5_add 3 none, Cond.methodLink RX7 51 yX1_keepUnlessError, Cond.instanceMethod yX1_keepUnlessError, Cond.selects RX1 yX1_keepUnlessError yX1_keepUnlessError, Cond.code yX1_keepUnlessError cX1_keepUnlessError 2 (some .int), Cond.fieldLink RX1 18 "ApplauseTallies$History" "kept" "I", Cond.methodLink RX1 33 Lib.Math.min.name]
def wsX7_call : List Cond := .code yX7_call cX7_call 1 (some .int) :: ((wsX7_call_r1 ++ (wsX7_call_r2 ++ (wsX7_call_r3 ++ wsX7_call_r4))) ++ wsX70 ++ wsX10 ++ wsX20 ++ wsX50 ++ wsX60 ++ wsX00)
def wsX7_night_r1 : List Cond := [Cond.fieldLink RX7 19 "ApplauseTallies" "history" "LApplauseTallies$History;", Cond.fieldLink RX7 10 "ApplauseTallies" "house" "LApplauseTallies$House;", Cond.methodLink RX7 43 yX1_setAside, Cond.instanceMethod yX1_setAside, Cond.selects RX1 yX1_setAside yX1_setAside, Cond.initialized RX1, Cond.code yX1_setAside cX1_setAside 3 none, Cond.fieldLink RX1 22 "ApplauseTallies$History" "next" "I", Cond.methodLink RX1 25 yX1_stateAt, Cond.instanceMethod yX1_stateAt, Cond.selects RX1 yX1_stateAt yX1_stateAt, Cond.code yX1_stateAt cX1_stateAt 2 (some (.object "ApplauseTallies$House")), Cond.fieldLink RX1 13 "ApplauseTallies$History" "states" "[LApplauseTallies$House;", Cond.methodLink RX1 29 yX2_copyFrom, Cond.instanceMethod yX2_copyFrom, Cond.selects RX2 yX2_copyFrom yX2_copyFrom, Cond.initialized RX2, Cond.code yX2_copyFrom cX2_copyFrom 2 none, Cond.fieldLink RX2 14 "ApplauseTallies$House" "settings" "LApplauseTallies$Row;", Cond.fieldLink RX2 23 "ApplauseTallies$House" "seats" "LApplauseTallies$Seats;", Cond.fieldLink RX2 30 "ApplauseTallies$House" "encores" "LApplauseTallies$Encores;", Cond.fieldLink RX2 34 "ApplauseTallies$House" "tonight" "LApplauseTallies$Row;", Cond.fieldLink RX2 37 "ApplauseTallies$House" "records" "LApplauseTallies$Row;", Cond.fieldLink RX2 62 "ApplauseTallies$House" "applause" "I"]
def wsX7_night_r2 : List Cond := [Cond.fieldLink RX2 65 "ApplauseTallies$House" "time" "I", Cond.fieldLink RX2 68 "ApplauseTallies$House" "nights" "I", Cond.fieldLink RX2 40 "ApplauseTallies$House" "pieceBy" "I", Cond.fieldLink RX2 71 "ApplauseTallies$House" "pieceEnd" "I", Cond.fieldLink RX2 74 "ApplauseTallies$House" "encoreCame" "Z", Cond.methodLink RX2 52 yX5_copyFrom, Cond.instanceMethod yX5_copyFrom, Cond.selects RX5 yX5_copyFrom yX5_copyFrom, Cond.initialized RX5, Cond.code yX5_copyFrom cX5_copyFrom 2 none, Cond.fieldLink RX5 13 "ApplauseTallies$Row" "cells" "[I", Cond.methodLink RX5 19 Lib.Math.min.name, Cond.static Lib.Math.min.name, Cond.initialized "java/lang/Math", Cond.code Lib.Math.min.name Lib.Math.min.code 2 (some .int), Cond.methodLink RX5 22 arraycopyName, Cond.native arraycopyName, Cond.static arraycopyName, Cond.initialized "java/lang/System", Cond.methodLink RX2 56 yX6_copyFrom, Cond.instanceMethod yX6_copyFrom, Cond.selects RX6 yX6_copyFrom yX6_copyFrom, Cond.initialized RX6, Cond.code yX6_copyFrom cX6_copyFrom 2 none]
def wsX7_night_r3 : List Cond := [Cond.fieldLink RX6 14 "ApplauseTallies$Seats" "loudness" "LApplauseTallies$Row;", Cond.fieldLink RX6 20 "ApplauseTallies$Seats" "early" "LApplauseTallies$Row;", Cond.fieldLink RX6 23 "ApplauseTallies$Seats" "clapsTonight" "LApplauseTallies$Row;", Cond.fieldLink RX6 26 "ApplauseTallies$Seats" "clapsSoFar" "LApplauseTallies$Row;", Cond.fieldLink RX6 29 "ApplauseTallies$Seats" "clappers" "LApplauseTallies$Row;", Cond.fieldLink RX6 39 "ApplauseTallies$Seats" "clapperCount" "I", Cond.fieldLink RX6 43 "ApplauseTallies$Seats" "paid" "I", Cond.fieldLink RX6 46 "ApplauseTallies$Seats" "clappedForPiece" "I", Cond.methodLink RX6 35 yX5_copyFrom, Cond.methodLink RX2 59 yX0_copyFrom, Cond.instanceMethod yX0_copyFrom, Cond.selects RX0 yX0_copyFrom yX0_copyFrom, Cond.initialized RX0, Cond.code yX0_copyFrom cX0_copyFrom 2 none, Cond.fieldLink RX0 14 "ApplauseTallies$Encores" "owers" "LApplauseTallies$Row;", Cond.fieldLink RX0 20 "ApplauseTallies$Encores" "since" "LApplauseTallies$Row;", Cond.fieldLink RX0 23 "ApplauseTallies$Encores" "played" "LApplauseTallies$Row;", Cond.fieldLink RX0 26 "ApplauseTallies$Encores" "lapsed" "LApplauseTallies$Row;", Cond.fieldLink RX0 29 "ApplauseTallies$Encores" "pieces" "LApplauseTallies$Row;", Cond.fieldLink RX0 36 "ApplauseTallies$Encores" "owedCount" "I", Cond.methodLink RX0 32 yX5_copyFrom, Cond.methodLink RX7 77 yX2_endNight, Cond.instanceMethod yX2_endNight, Cond.selects RX2 yX2_endNight yX2_endNight]
def wsX7_night_r4 : List Cond := [Cond.code yX2_endNight cX2_endNight 3 (some .int), Cond.methodLink RX2 134 yX0_lapseSince, Cond.instanceMethod yX0_lapseSince, Cond.selects RX0 yX0_lapseSince yX0_lapseSince, Cond.code yX0_lapseSince cX0_lapseSince 4 (some .int), Cond.methodLink RX0 47 yX5_at, Cond.instanceMethod yX5_at, Cond.selects RX5 yX5_at yX5_at, Cond.code yX5_at cX5_at 2 (some .int), Cond.methodLink RX0 40 yX5_add, Cond.instanceMethod yX5_add, Cond.selects RX5 yX5_add yX5_add, Cond.code yX5_add cX5_add 3 none, Cond.methodLink RX0 44 yX5_store, Cond.instanceMethod yX5_store, Cond.selects RX5 yX5_store yX5_store, Cond.code yX5_store cX5_store 3 none, Cond.methodLink RX2 107 yX5_add, Cond.methodLink RX2 143 yX2_recordPlace, Cond.static yX2_recordPlace, Cond.code yX2_recordPlace cX2_recordPlace 2 (some .int), Cond.methodLink RX2 84 yX5_at, Cond.methodLink RX2 48 yX5_store, Cond.methodLink RX2 146 yX5_fill]
def wsX7_night_r5 : List Cond := [Cond.instanceMethod yX5_fill, Cond.selects RX5 yX5_fill yX5_fill, Cond.code yX5_fill cX5_fill 3 none, Cond.methodLink RX2 149 yX6_beginNight, Cond.instanceMethod yX6_beginNight, Cond.selects RX6 yX6_beginNight yX6_beginNight, Cond.code yX6_beginNight cX6_beginNight 1 none, Cond.methodLink RX6 32 yX5_fill, Cond.methodLink RX7 51 yX1_keepUnlessError, Cond.instanceMethod yX1_keepUnlessError, Cond.selects RX1 yX1_keepUnlessError yX1_keepUnlessError, Cond.code yX1_keepUnlessError cX1_keepUnlessError 2 (some .int), Cond.fieldLink RX1 18 "ApplauseTallies$History" "kept" "I", Cond.methodLink RX1 33 Lib.Math.min.name]
def wsX7_night : List Cond := .code yX7_night cX7_night 1 (some .int) :: ((wsX7_night_r1 ++ (wsX7_night_r2 ++ (wsX7_night_r3 ++ (wsX7_night_r4 ++ wsX7_night_r5)))) ++ wsX70 ++ wsX10 ++ wsX20 ++ wsX50 ++ wsX60 ++ wsX00)
def wsX7_write_r1 : List Cond := [Cond.fieldLink RX7 30 "ApplauseTallies" "pad" "LApplauseTallies$Pad;", Cond.fieldLink RX7 10 "ApplauseTallies" "house" "LApplauseTallies$House;", Cond.methodLink RX7 80 yX4_clear, Cond.instanceMethod yX4_clear, Cond.selects RX4 yX4_clear yX4_clear, Cond.initialized RX4, Cond.code yX4_clear cX4_clear 1 none, Cond.fieldLink RX4 15 "ApplauseTallies$Pad" "length" "I", Cond.methodLink RX7 83 yX2_writeBill, Cond.instanceMethod yX2_writeBill, Cond.selects RX2 yX2_writeBill yX2_writeBill, Cond.initialized RX2, Cond.code yX2_writeBill cX2_writeBill 4 none, Cond.fieldLink RX2 34 "ApplauseTallies$House" "tonight" "LApplauseTallies$Row;", Cond.fieldLink RX2 30 "ApplauseTallies$House" "encores" "LApplauseTallies$Encores;", Cond.methodLink RX2 84 yX5_at, Cond.instanceMethod yX5_at, Cond.selects RX5 yX5_at yX5_at, Cond.initialized RX5, Cond.code yX5_at cX5_at 2 (some .int), Cond.fieldLink RX5 13 "ApplauseTallies$Row" "cells" "[I", Cond.methodLink RX2 152 yX4_appendPart, Cond.instanceMethod yX4_appendPart, Cond.selects RX4 yX4_appendPart yX4_appendPart]
def wsX7_write_r2 : List Cond := [Cond.code yX4_appendPart cX4_appendPart 6 none, Cond.constant RX4 23 (1000000000), Cond.methodLink RX4 19 yX4_append, Cond.instanceMethod yX4_append, Cond.selects RX4 yX4_append yX4_append, Cond.code yX4_append cX4_append 2 none, Cond.fieldLink RX4 9 "ApplauseTallies$Pad" "codes" "[I", Cond.methodLink RX2 140 yX0_owedBy, Cond.instanceMethod yX0_owedBy, Cond.selects RX0 yX0_owedBy yX0_owedBy, Cond.initialized RX0, Cond.code yX0_owedBy cX0_owedBy 4 (some .int), Cond.fieldLink RX0 36 "ApplauseTallies$Encores" "owedCount" "I", Cond.fieldLink RX0 14 "ApplauseTallies$Encores" "owers" "LApplauseTallies$Row;", Cond.methodLink RX0 47 yX5_at, Cond.methodLink RX7 86 yX4_length, Cond.instanceMethod yX4_length, Cond.selects RX4 yX4_length yX4_length, Cond.code yX4_length cX4_length 1 (some .int)]
def wsX7_write : List Cond := .code yX7_write cX7_write 1 (some .int) :: ((wsX7_write_r1 ++ wsX7_write_r2) ++ wsX70 ++ wsX40 ++ wsX20 ++ wsX50 ++ wsX00)
def wsX7_of : List Cond := .code yX7_of cX7_of 3 (some .int) :: ([.fieldLink RX7 10 "ApplauseTallies" "house" "LApplauseTallies$House;", .methodLink RX7 89 yX2_aboutSeat, .instanceMethod yX2_aboutSeat, .selects RX2 yX2_aboutSeat yX2_aboutSeat, .initialized RX2, .code yX2_aboutSeat cX2_aboutSeat 3 (some .int), .fieldLink RX2 23 "ApplauseTallies$House" "seats" "LApplauseTallies$Seats;", .fieldLink RX2 14 "ApplauseTallies$House" "settings" "LApplauseTallies$Row;", .static yX7_isSeat, .initialized RX7, .code yX7_isSeat cX7_isSeat 1 (some .boolean), .methodLink RX2 84 yX5_at, .instanceMethod yX5_at, .selects RX5 yX5_at yX5_at, .initialized RX5, .code yX5_at cX5_at 2 (some .int), .fieldLink RX5 13 "ApplauseTallies$Row" "cells" "[I", .methodLink RX2 164 yX6_hasClapped, .instanceMethod yX6_hasClapped, .selects RX6 yX6_hasClapped yX6_hasClapped, .initialized RX6, .code yX6_hasClapped cX6_hasClapped 2 (some .boolean), .fieldLink RX6 46 "ApplauseTallies$Seats" "clappedForPiece" "I"] ++ wsX70 ++ wsX20 ++ wsX60 ++ wsX50)
def wsX7_performer : List Cond := .code yX7_performer cX7_performer 3 (some .int) :: ([.fieldLink RX7 10 "ApplauseTallies" "house" "LApplauseTallies$House;", .methodLink RX7 96 yX0_aboutPerformer, .instanceMethod yX0_aboutPerformer, .selects RX0 yX0_aboutPerformer yX0_aboutPerformer, .initialized RX0, .code yX0_aboutPerformer cX0_aboutPerformer 3 (some .int), .fieldLink RX0 23 "ApplauseTallies$Encores" "played" "LApplauseTallies$Row;", .fieldLink RX0 26 "ApplauseTallies$Encores" "lapsed" "LApplauseTallies$Row;", .fieldLink RX0 29 "ApplauseTallies$Encores" "pieces" "LApplauseTallies$Row;", .static yX7_isPerformer, .initialized RX7, .code yX7_isPerformer cX7_isPerformer 1 (some .boolean), .methodLink RX0 58 yX0_owedBy, .instanceMethod yX0_owedBy, .selects RX0 yX0_owedBy yX0_owedBy, .code yX0_owedBy cX0_owedBy 4 (some .int), .fieldLink RX0 36 "ApplauseTallies$Encores" "owedCount" "I", .fieldLink RX0 14 "ApplauseTallies$Encores" "owers" "LApplauseTallies$Row;", .methodLink RX0 47 yX5_at, .instanceMethod yX5_at, .selects RX5 yX5_at yX5_at, .initialized RX5, .code yX5_at cX5_at 2 (some .int), .fieldLink RX5 13 "ApplauseTallies$Row" "cells" "[I"] ++ wsX70 ++ wsX20 ++ wsX00 ++ wsX50)
def wsX7_owed : List Cond := .code yX7_owed cX7_owed 3 (some .int) :: ([.fieldLink RX7 10 "ApplauseTallies" "house" "LApplauseTallies$House;", .methodLink RX7 105 yX0_aboutOwed, .instanceMethod yX0_aboutOwed, .selects RX0 yX0_aboutOwed yX0_aboutOwed, .initialized RX0, .code yX0_aboutOwed cX0_aboutOwed 4 (some .int), .fieldLink RX0 36 "ApplauseTallies$Encores" "owedCount" "I", .fieldLink RX0 14 "ApplauseTallies$Encores" "owers" "LApplauseTallies$Row;", .fieldLink RX0 20 "ApplauseTallies$Encores" "since" "LApplauseTallies$Row;", .methodLink RX0 47 yX5_at, .instanceMethod yX5_at, .selects RX5 yX5_at yX5_at, .initialized RX5, .code yX5_at cX5_at 2 (some .int), .fieldLink RX5 13 "ApplauseTallies$Row" "cells" "[I"] ++ wsX70 ++ wsX20 ++ wsX00 ++ wsX50)
def wsX7_clapper : List Cond := .code yX7_clapper cX7_clapper 2 (some .int) :: ([.fieldLink RX7 10 "ApplauseTallies" "house" "LApplauseTallies$House;", .methodLink RX7 113 yX6_clapperAt, .instanceMethod yX6_clapperAt, .selects RX6 yX6_clapperAt yX6_clapperAt, .initialized RX6, .code yX6_clapperAt cX6_clapperAt 2 (some .int), .fieldLink RX6 39 "ApplauseTallies$Seats" "clapperCount" "I", .fieldLink RX6 29 "ApplauseTallies$Seats" "clappers" "LApplauseTallies$Row;", .methodLink RX6 57 yX5_at, .instanceMethod yX5_at, .selects RX5 yX5_at yX5_at, .initialized RX5, .code yX5_at cX5_at 2 (some .int), .fieldLink RX5 13 "ApplauseTallies$Row" "cells" "[I"] ++ wsX70 ++ wsX20 ++ wsX60 ++ wsX50)
def wsX7_record : List Cond := .code yX7_record cX7_record 3 (some .int) :: ([.fieldLink RX7 10 "ApplauseTallies" "house" "LApplauseTallies$House;", .methodLink RX7 118 yX2_recordOf, .instanceMethod yX2_recordOf, .selects RX2 yX2_recordOf yX2_recordOf, .initialized RX2, .code yX2_recordOf cX2_recordOf 3 (some .int), .fieldLink RX2 68 "ApplauseTallies$House" "nights" "I", .methodLink RX2 117 Lib.Math.min.name, .static Lib.Math.min.name, .initialized "java/lang/Math", .code Lib.Math.min.name Lib.Math.min.code 2 (some .int), .fieldLink RX2 37 "ApplauseTallies$House" "records" "LApplauseTallies$Row;", .methodLink RX2 143 yX2_recordPlace, .static yX2_recordPlace, .code yX2_recordPlace cX2_recordPlace 2 (some .int), .methodLink RX2 84 yX5_at, .instanceMethod yX5_at, .selects RX5 yX5_at yX5_at, .initialized RX5, .code yX5_at cX5_at 2 (some .int), .fieldLink RX5 13 "ApplauseTallies$Row" "cells" "[I"] ++ wsX70 ++ wsX20 ++ wsX50)
def wsX7_sign : List Cond := .code yX7_sign cX7_sign 2 (some .int) :: ([.fieldLink RX7 30 "ApplauseTallies" "pad" "LApplauseTallies$Pad;", .methodLink RX7 121 yX4_has, .instanceMethod yX4_has, .selects RX4 yX4_has yX4_has, .initialized RX4, .code yX4_has cX4_has 2 (some .boolean), .fieldLink RX4 15 "ApplauseTallies$Pad" "length" "I", .methodLink RX7 125 yX4_codeAt, .instanceMethod yX4_codeAt, .selects RX4 yX4_codeAt yX4_codeAt, .code yX4_codeAt cX4_codeAt 2 (some .int), .fieldLink RX4 9 "ApplauseTallies$Pad" "codes" "[I"] ++ wsX70 ++ wsX40)
def wsX7_count_r1 : List Cond := [Cond.fieldLink RX7 30 "ApplauseTallies" "pad" "LApplauseTallies$Pad;", Cond.fieldLink RX7 19 "ApplauseTallies" "history" "LApplauseTallies$History;", Cond.fieldLink RX7 10 "ApplauseTallies" "house" "LApplauseTallies$House;", Cond.methodLink RX7 86 yX4_length, Cond.instanceMethod yX4_length, Cond.selects RX4 yX4_length yX4_length, Cond.initialized RX4, Cond.code yX4_length cX4_length 1 (some .int), Cond.fieldLink RX4 15 "ApplauseTallies$Pad" "length" "I", Cond.methodLink RX7 128 yX1_kept, Cond.instanceMethod yX1_kept, Cond.selects RX1 yX1_kept yX1_kept, Cond.initialized RX1, Cond.code yX1_kept cX1_kept 1 (some .int), Cond.fieldLink RX1 18 "ApplauseTallies$History" "kept" "I", Cond.methodLink RX7 131 yX2_numberOf, Cond.instanceMethod yX2_numberOf, Cond.selects RX2 yX2_numberOf yX2_numberOf, Cond.initialized RX2, Cond.code yX2_numberOf cX2_numberOf 2 (some .int), Cond.fieldLink RX2 62 "ApplauseTallies$House" "applause" "I", Cond.fieldLink RX2 65 "ApplauseTallies$House" "time" "I", Cond.fieldLink RX2 68 "ApplauseTallies$House" "nights" "I", Cond.fieldLink RX2 34 "ApplauseTallies$House" "tonight" "LApplauseTallies$Row;"]
def wsX7_count_r2 : List Cond := [Cond.fieldLink RX2 30 "ApplauseTallies$House" "encores" "LApplauseTallies$Encores;", Cond.fieldLink RX2 40 "ApplauseTallies$House" "pieceBy" "I", Cond.fieldLink RX2 71 "ApplauseTallies$House" "pieceEnd" "I", Cond.fieldLink RX2 23 "ApplauseTallies$House" "seats" "LApplauseTallies$Seats;", Cond.fieldLink RX2 14 "ApplauseTallies$House" "settings" "LApplauseTallies$Row;", Cond.methodLink RX2 84 yX5_at, Cond.instanceMethod yX5_at, Cond.selects RX5 yX5_at yX5_at, Cond.initialized RX5, Cond.code yX5_at cX5_at 2 (some .int), Cond.fieldLink RX5 13 "ApplauseTallies$Row" "cells" "[I", Cond.methodLink RX2 179 yX5_sum, Cond.instanceMethod yX5_sum, Cond.selects RX5 yX5_sum yX5_sum, Cond.code yX5_sum cX5_sum 3 (some .int), Cond.methodLink RX2 186 yX2_suspectedNow, Cond.instanceMethod yX2_suspectedNow, Cond.selects RX2 yX2_suspectedNow yX2_suspectedNow, Cond.code yX2_suspectedNow cX2_suspectedNow 1 (some .int), Cond.methodLink RX2 170 yX6_suspected, Cond.instanceMethod yX6_suspected, Cond.selects RX6 yX6_suspected yX6_suspected, Cond.initialized RX6, Cond.code yX6_suspected cX6_suspected 4 (some .int)]
def wsX7_count_r3 : List Cond := [Cond.fieldLink RX6 20 "ApplauseTallies$Seats" "early" "LApplauseTallies$Row;", Cond.methodLink RX6 57 yX5_at]
def wsX7_count : List Cond := .code yX7_count cX7_count 2 (some .int) :: ((wsX7_count_r1 ++ (wsX7_count_r2 ++ wsX7_count_r3)) ++ wsX70 ++ wsX40 ++ wsX10 ++ wsX20 ++ wsX00 ++ wsX60 ++ wsX50)
def wsX7_quietIn : List Cond := .code yX7_quietIn cX7_quietIn 2 (some .int) :: ([.fieldLink RX7 10 "ApplauseTallies" "house" "LApplauseTallies$House;", .methodLink RX7 134 yX2_secondsUntil, .instanceMethod yX2_secondsUntil, .selects RX2 yX2_secondsUntil yX2_secondsUntil, .initialized RX2, .code yX2_secondsUntil cX2_secondsUntil 4 (some .int), .fieldLink RX2 62 "ApplauseTallies$House" "applause" "I", .fieldLink RX2 14 "ApplauseTallies$House" "settings" "LApplauseTallies$Row;", .methodLink RX2 84 yX5_at, .instanceMethod yX5_at, .selects RX5 yX5_at yX5_at, .initialized RX5, .code yX5_at cX5_at 2 (some .int), .fieldLink RX5 13 "ApplauseTallies$Row" "cells" "[I", .static yX7_afterSecond, .initialized RX7, .code yX7_afterSecond cX7_afterSecond 2 (some .int), .methodLink RX7 176 Lib.Math.max.name, .static Lib.Math.max.name, .initialized "java/lang/Math", .code Lib.Math.max.name Lib.Math.max.code 2 (some .int)] ++ wsX70 ++ wsX20 ++ wsX50)
def wsX7_clapsFor : List Cond := .code yX7_clapsFor cX7_clapsFor 2 (some .int) :: ([.fieldLink RX7 10 "ApplauseTallies" "house" "LApplauseTallies$House;", .methodLink RX7 137 yX2_clapsUntilEncore, .instanceMethod yX2_clapsUntilEncore, .selects RX2 yX2_clapsUntilEncore yX2_clapsUntilEncore, .initialized RX2, .code yX2_clapsUntilEncore cX2_clapsUntilEncore 4 (some .int), .fieldLink RX2 40 "ApplauseTallies$House" "pieceBy" "I", .fieldLink RX2 74 "ApplauseTallies$House" "encoreCame" "Z", .fieldLink RX2 23 "ApplauseTallies$House" "seats" "LApplauseTallies$Seats;", .fieldLink RX2 14 "ApplauseTallies$House" "settings" "LApplauseTallies$Row;", .fieldLink RX2 62 "ApplauseTallies$House" "applause" "I", .static yX7_isSeat, .initialized RX7, .code yX7_isSeat cX7_isSeat 1 (some .boolean), .methodLink RX2 84 yX5_at, .instanceMethod yX5_at, .selects RX5 yX5_at yX5_at, .initialized RX5, .code yX5_at cX5_at 2 (some .int), .fieldLink RX5 13 "ApplauseTallies$Row" "cells" "[I"] ++ wsX70 ++ wsX20 ++ wsX60 ++ wsX50)
def wsX7_lapsesIn_r1 : List Cond := [Cond.fieldLink RX7 10 "ApplauseTallies" "house" "LApplauseTallies$House;", Cond.methodLink RX7 140 yX2_secondsUntilLapse, Cond.instanceMethod yX2_secondsUntilLapse, Cond.selects RX2 yX2_secondsUntilLapse yX2_secondsUntilLapse, Cond.initialized RX2, Cond.code yX2_secondsUntilLapse cX2_secondsUntilLapse 4 (some .int), Cond.fieldLink RX2 30 "ApplauseTallies$House" "encores" "LApplauseTallies$Encores;", Cond.fieldLink RX2 65 "ApplauseTallies$House" "time" "I", Cond.fieldLink RX2 14 "ApplauseTallies$House" "settings" "LApplauseTallies$Row;", Cond.methodLink RX2 195 Lib.Math.max.name, Cond.static Lib.Math.max.name, Cond.initialized "java/lang/Math", Cond.code Lib.Math.max.name Lib.Math.max.code 2 (some .int), Cond.static yX7_isPerformer, Cond.initialized RX7, Cond.code yX7_isPerformer cX7_isPerformer 1 (some .boolean), Cond.methodLink RX2 189 yX0_earliestOf, Cond.instanceMethod yX0_earliestOf, Cond.selects RX0 yX0_earliestOf yX0_earliestOf, Cond.initialized RX0, Cond.code yX0_earliestOf cX0_earliestOf 3 (some .int), Cond.fieldLink RX0 36 "ApplauseTallies$Encores" "owedCount" "I", Cond.fieldLink RX0 14 "ApplauseTallies$Encores" "owers" "LApplauseTallies$Row;", Cond.methodLink RX0 47 yX5_at]
def wsX7_lapsesIn_r2 : List Cond := [Cond.instanceMethod yX5_at, Cond.selects RX5 yX5_at yX5_at, Cond.initialized RX5, Cond.code yX5_at cX5_at 2 (some .int), Cond.fieldLink RX5 13 "ApplauseTallies$Row" "cells" "[I", Cond.methodLink RX2 84 yX5_at]
def wsX7_lapsesIn : List Cond := .code yX7_lapsesIn cX7_lapsesIn 2 (some .int) :: ((wsX7_lapsesIn_r1 ++ wsX7_lapsesIn_r2) ++ wsX70 ++ wsX20 ++ wsX00 ++ wsX50)
def wsX7_calls : List Cond := .code yX7_calls cX7_calls 1 (some .int) :: ([.fieldLink RX7 10 "ApplauseTallies" "house" "LApplauseTallies$House;", .methodLink RX7 143 yX2_curtainsLeft, .instanceMethod yX2_curtainsLeft, .selects RX2 yX2_curtainsLeft yX2_curtainsLeft, .initialized RX2, .code yX2_curtainsLeft cX2_curtainsLeft 3 (some .int), .fieldLink RX2 62 "ApplauseTallies$House" "applause" "I", .fieldLink RX2 14 "ApplauseTallies$House" "settings" "LApplauseTallies$Row;", .methodLink RX2 84 yX5_at, .instanceMethod yX5_at, .selects RX5 yX5_at yX5_at, .initialized RX5, .code yX5_at cX5_at 2 (some .int), .fieldLink RX5 13 "ApplauseTallies$Row" "cells" "[I"] ++ wsX70 ++ wsX20 ++ wsX50)
def wsX7_ifFound : List Cond := .code yX7_ifFound cX7_ifFound 2 (some .int) :: ([.fieldLink RX7 146 "ApplauseTallies" "LEAST" "[I", .fieldLink RX7 150 "ApplauseTallies" "MOST" "[I", .fieldLink RX7 10 "ApplauseTallies" "house" "LApplauseTallies$House;", .methodLink RX7 153 yX6_suspected, .instanceMethod yX6_suspected, .selects RX6 yX6_suspected yX6_suspected, .initialized RX6, .code yX6_suspected cX6_suspected 4 (some .int), .fieldLink RX6 20 "ApplauseTallies$Seats" "early" "LApplauseTallies$Row;", .methodLink RX6 57 yX5_at, .instanceMethod yX5_at, .selects RX5 yX5_at yX5_at, .initialized RX5, .code yX5_at cX5_at 2 (some .int), .fieldLink RX5 13 "ApplauseTallies$Row" "cells" "[I"] ++ wsX70 ++ wsX20 ++ wsX60 ++ wsX50)
def wsX7_put : List Cond := .code yX7_put cX7_put 3 (some .int) :: ([.fieldLink RX7 30 "ApplauseTallies" "pad" "LApplauseTallies$Pad;", .methodLink RX7 156 yX4_appendAll, .instanceMethod yX4_appendAll, .selects RX4 yX4_appendAll yX4_appendAll, .initialized RX4, .code yX4_appendAll cX4_appendAll 5 (some .int), .fieldLink RX4 15 "ApplauseTallies$Pad" "length" "I", .constantLong RX4 28 (255), .methodLink RX4 24 yX4_amountOf, .static yX4_amountOf, .code yX4_amountOf cX4_amountOf 6 (some .int), .methodLink RX4 19 yX4_append, .instanceMethod yX4_append, .selects RX4 yX4_append yX4_append, .code yX4_append cX4_append 2 none, .fieldLink RX4 9 "ApplauseTallies$Pad" "codes" "[I"] ++ wsX70 ++ wsX40)
def wsX7_wipe : List Cond := .code yX7_wipe cX7_wipe 2 (some .int) :: ([.fieldLink RX7 30 "ApplauseTallies" "pad" "LApplauseTallies$Pad;", .methodLink RX7 86 yX4_length, .instanceMethod yX4_length, .selects RX4 yX4_length yX4_length, .initialized RX4, .code yX4_length cX4_length 1 (some .int), .fieldLink RX4 15 "ApplauseTallies$Pad" "length" "I", .methodLink RX7 80 yX4_clear, .instanceMethod yX4_clear, .selects RX4 yX4_clear yX4_clear, .code yX4_clear cX4_clear 1 none] ++ wsX70 ++ wsX40)
def wsX7_fault_r1 : List Cond := [Cond.fieldLink RX7 39 "ApplauseTallies" "reader" "LApplauseTallies$OrderReader;", Cond.methodLink RX7 160 yX3_faultPlace, Cond.instanceMethod yX3_faultPlace, Cond.selects RX3 yX3_faultPlace yX3_faultPlace, Cond.initialized RX3, Cond.code yX3_faultPlace cX3_faultPlace 2 (some .int), Cond.fieldLink RX3 15 "ApplauseTallies$OrderReader" "place" "I", Cond.fieldLink RX3 9 "ApplauseTallies$OrderReader" "pad" "LApplauseTallies$Pad;", Cond.methodLink RX3 19 yX3_readOrder, Cond.instanceMethod yX3_readOrder, Cond.selects RX3 yX3_readOrder yX3_readOrder, Cond.code yX3_readOrder cX3_readOrder 1 (some .boolean), Cond.fieldLink RX3 40 "ApplauseTallies$OrderReader" "kind" "I", Cond.fieldLink RX3 33 "ApplauseTallies$OrderReader" "times" "I", Cond.methodLink RX3 70 yX4_codeAt, Cond.instanceMethod yX4_codeAt, Cond.selects RX4 yX4_codeAt yX4_codeAt, Cond.initialized RX4, Cond.code yX4_codeAt cX4_codeAt 2 (some .int), Cond.fieldLink RX4 15 "ApplauseTallies$Pad" "length" "I", Cond.fieldLink RX4 9 "ApplauseTallies$Pad" "codes" "[I", Cond.methodLink RX3 73 yX3_readNumber, Cond.instanceMethod yX3_readNumber, Cond.selects RX3 yX3_readNumber yX3_readNumber]
def wsX7_fault_r2 : List Cond := [Cond.code yX3_readNumber cX3_readNumber 3 (some .boolean), Cond.fieldLink RX3 43 "ApplauseTallies$OrderReader" "number" "I", Cond.methodLink RX3 80 yX3_digitHere, Cond.instanceMethod yX3_digitHere, Cond.selects RX3 yX3_digitHere yX3_digitHere, Cond.code yX3_digitHere cX3_digitHere 2 (some .int), Cond.methodLink RX3 77 yX3_readTimes, Cond.instanceMethod yX3_readTimes, Cond.selects RX3 yX3_readTimes yX3_readTimes, Cond.code yX3_readTimes cX3_readTimes 3 (some .boolean), Cond.methodLink RX3 29 yX3_readSign, Cond.instanceMethod yX3_readSign, Cond.selects RX3 yX3_readSign yX3_readSign, Cond.code yX3_readSign cX3_readSign 2 (some .boolean), Cond.methodLink RX3 23 yX4_length, Cond.instanceMethod yX4_length, Cond.selects RX4 yX4_length yX4_length, Cond.code yX4_length cX4_length 1 (some .int)]
def wsX7_fault : List Cond := .code yX7_fault cX7_fault 1 (some .int) :: ((wsX7_fault_r1 ++ wsX7_fault_r2) ++ wsX70 ++ wsX30 ++ wsX40)
def wsX7_carryOut_r1 : List Cond := [Cond.fieldLink RX7 39 "ApplauseTallies" "reader" "LApplauseTallies$OrderReader;", Cond.fieldLink RX7 19 "ApplauseTallies" "history" "LApplauseTallies$History;", Cond.fieldLink RX7 10 "ApplauseTallies" "house" "LApplauseTallies$House;", Cond.fieldLink RX7 30 "ApplauseTallies" "pad" "LApplauseTallies$Pad;", Cond.methodLink RX7 160 yX3_faultPlace, Cond.instanceMethod yX3_faultPlace, Cond.selects RX3 yX3_faultPlace yX3_faultPlace, Cond.initialized RX3, Cond.code yX3_faultPlace cX3_faultPlace 2 (some .int), Cond.fieldLink RX3 15 "ApplauseTallies$OrderReader" "place" "I", Cond.fieldLink RX3 9 "ApplauseTallies$OrderReader" "pad" "LApplauseTallies$Pad;", Cond.methodLink RX3 19 yX3_readOrder, Cond.instanceMethod yX3_readOrder, Cond.selects RX3 yX3_readOrder yX3_readOrder, Cond.code yX3_readOrder cX3_readOrder 1 (some .boolean), Cond.fieldLink RX3 40 "ApplauseTallies$OrderReader" "kind" "I", Cond.fieldLink RX3 33 "ApplauseTallies$OrderReader" "times" "I", Cond.methodLink RX3 70 yX4_codeAt, Cond.instanceMethod yX4_codeAt, Cond.selects RX4 yX4_codeAt yX4_codeAt, Cond.initialized RX4, Cond.code yX4_codeAt cX4_codeAt 2 (some .int), Cond.fieldLink RX4 15 "ApplauseTallies$Pad" "length" "I", Cond.fieldLink RX4 9 "ApplauseTallies$Pad" "codes" "[I"]
def wsX7_carryOut_r2 : List Cond := [Cond.methodLink RX3 73 yX3_readNumber, Cond.instanceMethod yX3_readNumber, Cond.selects RX3 yX3_readNumber yX3_readNumber, Cond.code yX3_readNumber cX3_readNumber 3 (some .boolean), Cond.fieldLink RX3 43 "ApplauseTallies$OrderReader" "number" "I", Cond.methodLink RX3 80 yX3_digitHere, Cond.instanceMethod yX3_digitHere, Cond.selects RX3 yX3_digitHere yX3_digitHere, Cond.code yX3_digitHere cX3_digitHere 2 (some .int), Cond.methodLink RX3 77 yX3_readTimes, Cond.instanceMethod yX3_readTimes, Cond.selects RX3 yX3_readTimes yX3_readTimes, Cond.code yX3_readTimes cX3_readTimes 3 (some .boolean), Cond.methodLink RX3 29 yX3_readSign, Cond.instanceMethod yX3_readSign, Cond.selects RX3 yX3_readSign yX3_readSign, Cond.code yX3_readSign cX3_readSign 2 (some .boolean), Cond.methodLink RX3 23 yX4_length, Cond.instanceMethod yX4_length, Cond.selects RX4 yX4_length yX4_length, Cond.code yX4_length cX4_length 1 (some .int), Cond.methodLink RX7 43 yX1_setAside, Cond.instanceMethod yX1_setAside, Cond.selects RX1 yX1_setAside yX1_setAside]
def wsX7_carryOut_r3 : List Cond := [Cond.initialized RX1, Cond.code yX1_setAside cX1_setAside 3 none, Cond.fieldLink RX1 22 "ApplauseTallies$History" "next" "I", Cond.methodLink RX1 25 yX1_stateAt, Cond.instanceMethod yX1_stateAt, Cond.selects RX1 yX1_stateAt yX1_stateAt, Cond.code yX1_stateAt cX1_stateAt 2 (some (.object "ApplauseTallies$House")), Cond.fieldLink RX1 13 "ApplauseTallies$History" "states" "[LApplauseTallies$House;", Cond.methodLink RX1 29 yX2_copyFrom, Cond.instanceMethod yX2_copyFrom, Cond.selects RX2 yX2_copyFrom yX2_copyFrom, Cond.initialized RX2, Cond.code yX2_copyFrom cX2_copyFrom 2 none, Cond.fieldLink RX2 14 "ApplauseTallies$House" "settings" "LApplauseTallies$Row;", Cond.fieldLink RX2 23 "ApplauseTallies$House" "seats" "LApplauseTallies$Seats;", Cond.fieldLink RX2 30 "ApplauseTallies$House" "encores" "LApplauseTallies$Encores;", Cond.fieldLink RX2 34 "ApplauseTallies$House" "tonight" "LApplauseTallies$Row;", Cond.fieldLink RX2 37 "ApplauseTallies$House" "records" "LApplauseTallies$Row;", Cond.fieldLink RX2 62 "ApplauseTallies$House" "applause" "I", Cond.fieldLink RX2 65 "ApplauseTallies$House" "time" "I", Cond.fieldLink RX2 68 "ApplauseTallies$House" "nights" "I", Cond.fieldLink RX2 40 "ApplauseTallies$House" "pieceBy" "I", Cond.fieldLink RX2 71 "ApplauseTallies$House" "pieceEnd" "I", Cond.fieldLink RX2 74 "ApplauseTallies$House" "encoreCame" "Z"]
def wsX7_carryOut_r4 : List Cond := [Cond.methodLink RX2 52 yX5_copyFrom, Cond.instanceMethod yX5_copyFrom, Cond.selects RX5 yX5_copyFrom yX5_copyFrom, Cond.initialized RX5, Cond.code yX5_copyFrom cX5_copyFrom 2 none, Cond.fieldLink RX5 13 "ApplauseTallies$Row" "cells" "[I", Cond.methodLink RX5 19 Lib.Math.min.name, Cond.static Lib.Math.min.name, Cond.initialized "java/lang/Math", Cond.code Lib.Math.min.name Lib.Math.min.code 2 (some .int), Cond.methodLink RX5 22 arraycopyName, Cond.native arraycopyName, Cond.static arraycopyName, Cond.initialized "java/lang/System", Cond.methodLink RX2 56 yX6_copyFrom, Cond.instanceMethod yX6_copyFrom, Cond.selects RX6 yX6_copyFrom yX6_copyFrom, Cond.initialized RX6, Cond.code yX6_copyFrom cX6_copyFrom 2 none, Cond.fieldLink RX6 14 "ApplauseTallies$Seats" "loudness" "LApplauseTallies$Row;", Cond.fieldLink RX6 20 "ApplauseTallies$Seats" "early" "LApplauseTallies$Row;", Cond.fieldLink RX6 23 "ApplauseTallies$Seats" "clapsTonight" "LApplauseTallies$Row;", Cond.fieldLink RX6 26 "ApplauseTallies$Seats" "clapsSoFar" "LApplauseTallies$Row;", Cond.fieldLink RX6 29 "ApplauseTallies$Seats" "clappers" "LApplauseTallies$Row;"]
def wsX7_carryOut_r5 : List Cond := [Cond.fieldLink RX6 39 "ApplauseTallies$Seats" "clapperCount" "I", Cond.fieldLink RX6 43 "ApplauseTallies$Seats" "paid" "I", Cond.fieldLink RX6 46 "ApplauseTallies$Seats" "clappedForPiece" "I", Cond.methodLink RX6 35 yX5_copyFrom, Cond.methodLink RX2 59 yX0_copyFrom, Cond.instanceMethod yX0_copyFrom, Cond.selects RX0 yX0_copyFrom yX0_copyFrom, Cond.initialized RX0, Cond.code yX0_copyFrom cX0_copyFrom 2 none, Cond.fieldLink RX0 14 "ApplauseTallies$Encores" "owers" "LApplauseTallies$Row;", Cond.fieldLink RX0 20 "ApplauseTallies$Encores" "since" "LApplauseTallies$Row;", Cond.fieldLink RX0 23 "ApplauseTallies$Encores" "played" "LApplauseTallies$Row;", Cond.fieldLink RX0 26 "ApplauseTallies$Encores" "lapsed" "LApplauseTallies$Row;", Cond.fieldLink RX0 29 "ApplauseTallies$Encores" "pieces" "LApplauseTallies$Row;", Cond.fieldLink RX0 36 "ApplauseTallies$Encores" "owedCount" "I", Cond.methodLink RX0 32 yX5_copyFrom, Cond.methodLink RX7 163 yX3_carryOutIn, Cond.instanceMethod yX3_carryOutIn, Cond.selects RX3 yX3_carryOutIn yX3_carryOutIn, Cond.code yX3_carryOutIn cX3_carryOutIn 5 (some .int), Cond.methodLink RX3 36 yX3_carryOrderOutIn, Cond.instanceMethod yX3_carryOrderOutIn, Cond.selects RX3 yX3_carryOrderOutIn yX3_carryOrderOutIn, Cond.code yX3_carryOrderOutIn cX3_carryOrderOutIn 2 (some .int)]
def wsX7_carryOut_r6 : List Cond := [Cond.methodLink RX3 46 yX2_endPiece, Cond.instanceMethod yX2_endPiece, Cond.selects RX2 yX2_endPiece yX2_endPiece, Cond.code yX2_endPiece cX2_endPiece 3 (some .int), Cond.static yX7_isPerformer, Cond.initialized RX7, Cond.code yX7_isPerformer cX7_isPerformer 1 (some .boolean), Cond.methodLink RX2 101 yX2_beginApplause, Cond.instanceMethod yX2_beginApplause, Cond.selects RX2 yX2_beginApplause yX2_beginApplause, Cond.code yX2_beginApplause cX2_beginApplause 2 none, Cond.methodLink RX2 107 yX5_add, Cond.instanceMethod yX5_add, Cond.selects RX5 yX5_add yX5_add, Cond.code yX5_add cX5_add 3 none, Cond.methodLink RX2 110 yX6_beginPiece, Cond.instanceMethod yX6_beginPiece, Cond.selects RX6 yX6_beginPiece yX6_beginPiece, Cond.code yX6_beginPiece cX6_beginPiece 1 none, Cond.methodLink RX3 52 yX2_takeClap, Cond.instanceMethod yX2_takeClap, Cond.selects RX2 yX2_takeClap yX2_takeClap, Cond.code yX2_takeClap cX2_takeClap 2 (some .int), Cond.methodLink RX2 117 Lib.Math.min.name]
def wsX7_carryOut_r7 : List Cond := [Cond.static yX7_isSeat, Cond.code yX7_isSeat cX7_isSeat 1 (some .boolean), Cond.methodLink RX2 84 yX5_at, Cond.instanceMethod yX5_at, Cond.selects RX5 yX5_at yX5_at, Cond.code yX5_at cX5_at 2 (some .int), Cond.methodLink RX2 113 yX6_addClap, Cond.instanceMethod yX6_addClap, Cond.selects RX6 yX6_addClap yX6_addClap, Cond.code yX6_addClap cX6_addClap 3 none, Cond.methodLink RX6 49 yX6_hasClapped, Cond.instanceMethod yX6_hasClapped, Cond.selects RX6 yX6_hasClapped yX6_hasClapped, Cond.code yX6_hasClapped cX6_hasClapped 2 (some .boolean), Cond.methodLink RX6 53 yX5_add, Cond.methodLink RX6 57 yX5_at, Cond.methodLink RX6 61 yX5_store, Cond.instanceMethod yX5_store, Cond.selects RX5 yX5_store yX5_store, Cond.code yX5_store cX5_store 3 none, Cond.methodLink RX2 123 yX2_bringEncore, Cond.instanceMethod yX2_bringEncore, Cond.selects RX2 yX2_bringEncore yX2_bringEncore, Cond.code yX2_bringEncore cX2_bringEncore 1 none]
def wsX7_carryOut_r8 : List Cond := [Cond.methodLink RX2 126 yX0_owe, Cond.instanceMethod yX0_owe, Cond.selects RX0 yX0_owe yX0_owe, Cond.code yX0_owe cX0_owe 3 (some .boolean), Cond.methodLink RX0 40 yX5_add, Cond.methodLink RX0 44 yX5_store, Cond.methodLink RX3 55 yX2_letPass, Cond.instanceMethod yX2_letPass, Cond.selects RX2 yX2_letPass yX2_letPass, Cond.code yX2_letPass cX2_letPass 3 (some .int), Cond.constant RX2 130 (99999), Cond.static yX7_afterSecond, Cond.code yX7_afterSecond cX7_afterSecond 2 (some .int), Cond.methodLink RX7 176 Lib.Math.max.name, Cond.static Lib.Math.max.name, Cond.code Lib.Math.max.name Lib.Math.max.code 2 (some .int), Cond.methodLink RX2 134 yX0_lapseSince, Cond.instanceMethod yX0_lapseSince, Cond.selects RX0 yX0_lapseSince yX0_lapseSince, Cond.code yX0_lapseSince cX0_lapseSince 4 (some .int), Cond.methodLink RX0 47 yX5_at, Cond.methodLink RX3 58 yX2_playEncore, Cond.instanceMethod yX2_playEncore, Cond.selects RX2 yX2_playEncore yX2_playEncore]
def wsX7_carryOut_r9 : List Cond := [Cond.code yX2_playEncore cX2_playEncore 2 (some .int), Cond.methodLink RX2 137 yX0_playEarliestOf, Cond.instanceMethod yX0_playEarliestOf, Cond.selects RX0 yX0_playEarliestOf yX0_playEarliestOf, Cond.code yX0_playEarliestOf cX0_playEarliestOf 4 (some .boolean), Cond.methodLink RX0 51 yX0_earliestOf, Cond.instanceMethod yX0_earliestOf, Cond.selects RX0 yX0_earliestOf yX0_earliestOf, Cond.code yX0_earliestOf cX0_earliestOf 3 (some .int), Cond.methodLink RX2 140 yX0_owedBy, Cond.instanceMethod yX0_owedBy, Cond.selects RX0 yX0_owedBy yX0_owedBy, Cond.code yX0_owedBy cX0_owedBy 4 (some .int), Cond.methodLink RX3 61 yX2_takeCurtain, Cond.instanceMethod yX2_takeCurtain, Cond.selects RX2 yX2_takeCurtain yX2_takeCurtain, Cond.code yX2_takeCurtain cX2_takeCurtain 1 (some .int), Cond.methodLink RX3 64 yX2_endNight, Cond.instanceMethod yX2_endNight, Cond.selects RX2 yX2_endNight yX2_endNight, Cond.code yX2_endNight cX2_endNight 3 (some .int), Cond.methodLink RX2 143 yX2_recordPlace, Cond.static yX2_recordPlace, Cond.code yX2_recordPlace cX2_recordPlace 2 (some .int)]
def wsX7_carryOut_r10 : List Cond := [Cond.methodLink RX2 48 yX5_store, Cond.methodLink RX2 146 yX5_fill, Cond.instanceMethod yX5_fill, Cond.selects RX5 yX5_fill yX5_fill, Cond.code yX5_fill cX5_fill 3 none, Cond.methodLink RX2 149 yX6_beginNight, Cond.instanceMethod yX6_beginNight, Cond.selects RX6 yX6_beginNight yX6_beginNight, Cond.code yX6_beginNight cX6_beginNight 1 none, Cond.methodLink RX6 32 yX5_fill, Cond.methodLink RX3 67 yX2_switchPay, Cond.instanceMethod yX2_switchPay, Cond.selects RX2 yX2_switchPay yX2_switchPay, Cond.code yX2_switchPay cX2_switchPay 2 (some .int), Cond.methodLink RX7 80 yX4_clear, Cond.instanceMethod yX4_clear, Cond.selects RX4 yX4_clear yX4_clear, Cond.code yX4_clear cX4_clear 1 none, Cond.methodLink RX7 51 yX1_keepUnlessError, Cond.instanceMethod yX1_keepUnlessError, Cond.selects RX1 yX1_keepUnlessError yX1_keepUnlessError, Cond.code yX1_keepUnlessError cX1_keepUnlessError 2 (some .int), Cond.fieldLink RX1 18 "ApplauseTallies$History" "kept" "I", Cond.methodLink RX1 33 Lib.Math.min.name]
def wsX7_carryOut : List Cond := .code yX7_carryOut cX7_carryOut 2 (some .int) :: ((wsX7_carryOut_r1 ++ (wsX7_carryOut_r2 ++ (wsX7_carryOut_r3 ++ (wsX7_carryOut_r4 ++ (wsX7_carryOut_r5 ++ (wsX7_carryOut_r6 ++ (wsX7_carryOut_r7 ++ (wsX7_carryOut_r8 ++ (wsX7_carryOut_r9 ++ wsX7_carryOut_r10))))))))) ++ wsX70 ++ wsX30 ++ wsX40 ++ wsX10 ++ wsX20 ++ wsX50 ++ wsX60 ++ wsX00)
def wsX7_undo_r1 : List Cond := [Cond.fieldLink RX7 19 "ApplauseTallies" "history" "LApplauseTallies$History;", Cond.fieldLink RX7 10 "ApplauseTallies" "house" "LApplauseTallies$House;", Cond.methodLink RX7 167 yX1_takeBack, Cond.instanceMethod yX1_takeBack, Cond.selects RX1 yX1_takeBack yX1_takeBack, Cond.initialized RX1, Cond.code yX1_takeBack cX1_takeBack 4 (some .int), Cond.fieldLink RX1 22 "ApplauseTallies$History" "next" "I", Cond.fieldLink RX1 18 "ApplauseTallies$History" "kept" "I", Cond.methodLink RX1 25 yX1_stateAt, Cond.instanceMethod yX1_stateAt, Cond.selects RX1 yX1_stateAt yX1_stateAt, Cond.code yX1_stateAt cX1_stateAt 2 (some (.object "ApplauseTallies$House")), Cond.fieldLink RX1 13 "ApplauseTallies$History" "states" "[LApplauseTallies$House;", Cond.methodLink RX1 29 yX2_copyFrom, Cond.instanceMethod yX2_copyFrom, Cond.selects RX2 yX2_copyFrom yX2_copyFrom, Cond.initialized RX2, Cond.code yX2_copyFrom cX2_copyFrom 2 none, Cond.fieldLink RX2 14 "ApplauseTallies$House" "settings" "LApplauseTallies$Row;", Cond.fieldLink RX2 23 "ApplauseTallies$House" "seats" "LApplauseTallies$Seats;", Cond.fieldLink RX2 30 "ApplauseTallies$House" "encores" "LApplauseTallies$Encores;", Cond.fieldLink RX2 34 "ApplauseTallies$House" "tonight" "LApplauseTallies$Row;", Cond.fieldLink RX2 37 "ApplauseTallies$House" "records" "LApplauseTallies$Row;"]
def wsX7_undo_r2 : List Cond := [Cond.fieldLink RX2 62 "ApplauseTallies$House" "applause" "I", Cond.fieldLink RX2 65 "ApplauseTallies$House" "time" "I", Cond.fieldLink RX2 68 "ApplauseTallies$House" "nights" "I", Cond.fieldLink RX2 40 "ApplauseTallies$House" "pieceBy" "I", Cond.fieldLink RX2 71 "ApplauseTallies$House" "pieceEnd" "I", Cond.fieldLink RX2 74 "ApplauseTallies$House" "encoreCame" "Z", Cond.methodLink RX2 52 yX5_copyFrom, Cond.instanceMethod yX5_copyFrom, Cond.selects RX5 yX5_copyFrom yX5_copyFrom, Cond.initialized RX5, Cond.code yX5_copyFrom cX5_copyFrom 2 none, Cond.fieldLink RX5 13 "ApplauseTallies$Row" "cells" "[I", Cond.methodLink RX5 19 Lib.Math.min.name, Cond.static Lib.Math.min.name, Cond.initialized "java/lang/Math", Cond.code Lib.Math.min.name Lib.Math.min.code 2 (some .int), Cond.methodLink RX5 22 arraycopyName, Cond.native arraycopyName, Cond.static arraycopyName, Cond.initialized "java/lang/System", Cond.methodLink RX2 56 yX6_copyFrom, Cond.instanceMethod yX6_copyFrom, Cond.selects RX6 yX6_copyFrom yX6_copyFrom, Cond.initialized RX6]
def wsX7_undo_r3 : List Cond := [Cond.code yX6_copyFrom cX6_copyFrom 2 none, Cond.fieldLink RX6 14 "ApplauseTallies$Seats" "loudness" "LApplauseTallies$Row;", Cond.fieldLink RX6 20 "ApplauseTallies$Seats" "early" "LApplauseTallies$Row;", Cond.fieldLink RX6 23 "ApplauseTallies$Seats" "clapsTonight" "LApplauseTallies$Row;", Cond.fieldLink RX6 26 "ApplauseTallies$Seats" "clapsSoFar" "LApplauseTallies$Row;", Cond.fieldLink RX6 29 "ApplauseTallies$Seats" "clappers" "LApplauseTallies$Row;", Cond.fieldLink RX6 39 "ApplauseTallies$Seats" "clapperCount" "I", Cond.fieldLink RX6 43 "ApplauseTallies$Seats" "paid" "I", Cond.fieldLink RX6 46 "ApplauseTallies$Seats" "clappedForPiece" "I", Cond.methodLink RX6 35 yX5_copyFrom, Cond.methodLink RX2 59 yX0_copyFrom, Cond.instanceMethod yX0_copyFrom, Cond.selects RX0 yX0_copyFrom yX0_copyFrom, Cond.initialized RX0, Cond.code yX0_copyFrom cX0_copyFrom 2 none, Cond.fieldLink RX0 14 "ApplauseTallies$Encores" "owers" "LApplauseTallies$Row;", Cond.fieldLink RX0 20 "ApplauseTallies$Encores" "since" "LApplauseTallies$Row;", Cond.fieldLink RX0 23 "ApplauseTallies$Encores" "played" "LApplauseTallies$Row;", Cond.fieldLink RX0 26 "ApplauseTallies$Encores" "lapsed" "LApplauseTallies$Row;", Cond.fieldLink RX0 29 "ApplauseTallies$Encores" "pieces" "LApplauseTallies$Row;", Cond.fieldLink RX0 36 "ApplauseTallies$Encores" "owedCount" "I", Cond.methodLink RX0 32 yX5_copyFrom]
def wsX7_undo : List Cond := .code yX7_undo cX7_undo 1 (some .int) :: ((wsX7_undo_r1 ++ (wsX7_undo_r2 ++ wsX7_undo_r3)) ++ wsX70 ++ wsX10 ++ wsX20 ++ wsX50 ++ wsX60 ++ wsX00)
def wsX7_save_r1 : List Cond := [Cond.fieldLink RX7 23 "ApplauseTallies" "slots" "[LApplauseTallies$House;", Cond.classLink RX7 7 RX2, Cond.instantiable RX2 11, Cond.initialized RX2, Cond.fieldLink RX7 10 "ApplauseTallies" "house" "LApplauseTallies$House;", Cond.methodLink RX7 9 yX2_init, Cond.instanceMethod yX2_init, Cond.code yX2_init cX2_init 2 none, Cond.methodLink RX2 3 objectInit, Cond.instanceMethod objectInit, Cond.code objectInit ⟨#[0xb1]⟩ 1 none, Cond.classLink RX2 9 RX5, Cond.instantiable RX5 1, Cond.initialized RX5, Cond.fieldLink RX2 14 "ApplauseTallies$House" "settings" "LApplauseTallies$Row;", Cond.classLink RX2 20 RX6, Cond.instantiable RX6 8, Cond.initialized RX6, Cond.fieldLink RX2 23 "ApplauseTallies$House" "seats" "LApplauseTallies$Seats;", Cond.classLink RX2 27 RX0, Cond.instantiable RX0 6, Cond.initialized RX0, Cond.fieldLink RX2 30 "ApplauseTallies$House" "encores" "LApplauseTallies$Encores;", Cond.fieldLink RX2 34 "ApplauseTallies$House" "tonight" "LApplauseTallies$Row;"]
def wsX7_save_r2 : List Cond := [Cond.fieldLink RX2 37 "ApplauseTallies$House" "records" "LApplauseTallies$Row;", Cond.fieldLink RX2 40 "ApplauseTallies$House" "pieceBy" "I", Cond.methodLink RX2 11 yX5_init, Cond.instanceMethod yX5_init, Cond.code yX5_init cX5_init 2 none, Cond.methodLink RX5 1 objectInit, Cond.methodLink RX5 7 Lib.Math.max.name, Cond.static Lib.Math.max.name, Cond.initialized "java/lang/Math", Cond.code Lib.Math.max.name Lib.Math.max.code 2 (some .int), Cond.arrayClass .int, Cond.fieldLink RX5 13 "ApplauseTallies$Row" "cells" "[I", Cond.methodLink RX2 22 yX6_init, Cond.instanceMethod yX6_init, Cond.code yX6_init cX6_init 1 none, Cond.methodLink RX6 3 objectInit, Cond.classLink RX6 9 RX5, Cond.fieldLink RX6 14 "ApplauseTallies$Seats" "loudness" "LApplauseTallies$Row;", Cond.fieldLink RX6 20 "ApplauseTallies$Seats" "early" "LApplauseTallies$Row;", Cond.fieldLink RX6 23 "ApplauseTallies$Seats" "clapsTonight" "LApplauseTallies$Row;", Cond.fieldLink RX6 26 "ApplauseTallies$Seats" "clapsSoFar" "LApplauseTallies$Row;", Cond.fieldLink RX6 29 "ApplauseTallies$Seats" "clappers" "LApplauseTallies$Row;", Cond.methodLink RX6 11 yX5_init, Cond.methodLink RX6 32 yX5_fill]
def wsX7_save_r3 : List Cond := [Cond.instanceMethod yX5_fill, Cond.selects RX5 yX5_fill yX5_fill, Cond.code yX5_fill cX5_fill 3 none, Cond.instanceMethod yX0_init, Cond.code yX0_init cX0_init 1 none, Cond.methodLink RX0 3 objectInit, Cond.classLink RX0 9 RX5, Cond.fieldLink RX0 14 "ApplauseTallies$Encores" "owers" "LApplauseTallies$Row;", Cond.fieldLink RX0 20 "ApplauseTallies$Encores" "since" "LApplauseTallies$Row;", Cond.fieldLink RX0 23 "ApplauseTallies$Encores" "played" "LApplauseTallies$Row;", Cond.fieldLink RX0 26 "ApplauseTallies$Encores" "lapsed" "LApplauseTallies$Row;", Cond.fieldLink RX0 29 "ApplauseTallies$Encores" "pieces" "LApplauseTallies$Row;", Cond.methodLink RX0 11 yX5_init, Cond.methodLink RX2 48 yX5_store, Cond.instanceMethod yX5_store, Cond.selects RX5 yX5_store yX5_store, Cond.code yX5_store cX5_store 3 none, Cond.methodLink RX7 170 yX2_copyFrom, Cond.instanceMethod yX2_copyFrom, Cond.selects RX2 yX2_copyFrom yX2_copyFrom, Cond.code yX2_copyFrom cX2_copyFrom 2 none, Cond.fieldLink RX2 62 "ApplauseTallies$House" "applause" "I", Cond.fieldLink RX2 65 "ApplauseTallies$House" "time" "I", Cond.fieldLink RX2 68 "ApplauseTallies$House" "nights" "I"]
def wsX7_save_r4 : List Cond := [Cond.fieldLink RX2 71 "ApplauseTallies$House" "pieceEnd" "I", Cond.fieldLink RX2 74 "ApplauseTallies$House" "encoreCame" "Z", Cond.methodLink RX2 52 yX5_copyFrom, Cond.instanceMethod yX5_copyFrom, Cond.selects RX5 yX5_copyFrom yX5_copyFrom, Cond.code yX5_copyFrom cX5_copyFrom 2 none, Cond.methodLink RX5 19 Lib.Math.min.name, Cond.static Lib.Math.min.name, Cond.code Lib.Math.min.name Lib.Math.min.code 2 (some .int), Cond.methodLink RX5 22 arraycopyName, Cond.native arraycopyName, Cond.static arraycopyName, Cond.initialized "java/lang/System", Cond.methodLink RX2 56 yX6_copyFrom, Cond.instanceMethod yX6_copyFrom, Cond.selects RX6 yX6_copyFrom yX6_copyFrom, Cond.code yX6_copyFrom cX6_copyFrom 2 none, Cond.fieldLink RX6 39 "ApplauseTallies$Seats" "clapperCount" "I", Cond.fieldLink RX6 43 "ApplauseTallies$Seats" "paid" "I", Cond.fieldLink RX6 46 "ApplauseTallies$Seats" "clappedForPiece" "I", Cond.methodLink RX6 35 yX5_copyFrom, Cond.methodLink RX2 59 yX0_copyFrom, Cond.instanceMethod yX0_copyFrom, Cond.selects RX0 yX0_copyFrom yX0_copyFrom]
def wsX7_save_r5 : List Cond := [Cond.code yX0_copyFrom cX0_copyFrom 2 none, Cond.fieldLink RX0 36 "ApplauseTallies$Encores" "owedCount" "I", Cond.methodLink RX0 32 yX5_copyFrom]
def wsX7_save : List Cond := .code yX7_save cX7_save 3 (some .int) :: ((wsX7_save_r1 ++ (wsX7_save_r2 ++ (wsX7_save_r3 ++ (wsX7_save_r4 ++ wsX7_save_r5)))) ++ wsX70 ++ wsX20 ++ wsX50 ++ wsX60 ++ wsX00)
def wsX7_restore_r1 : List Cond := [Cond.fieldLink RX7 23 "ApplauseTallies" "slots" "[LApplauseTallies$House;", Cond.fieldLink RX7 19 "ApplauseTallies" "history" "LApplauseTallies$History;", Cond.fieldLink RX7 10 "ApplauseTallies" "house" "LApplauseTallies$House;", Cond.methodLink RX7 43 yX1_setAside, Cond.instanceMethod yX1_setAside, Cond.selects RX1 yX1_setAside yX1_setAside, Cond.initialized RX1, Cond.code yX1_setAside cX1_setAside 3 none, Cond.fieldLink RX1 22 "ApplauseTallies$History" "next" "I", Cond.methodLink RX1 25 yX1_stateAt, Cond.instanceMethod yX1_stateAt, Cond.selects RX1 yX1_stateAt yX1_stateAt, Cond.code yX1_stateAt cX1_stateAt 2 (some (.object "ApplauseTallies$House")), Cond.fieldLink RX1 13 "ApplauseTallies$History" "states" "[LApplauseTallies$House;", Cond.methodLink RX1 29 yX2_copyFrom, Cond.instanceMethod yX2_copyFrom, Cond.selects RX2 yX2_copyFrom yX2_copyFrom, Cond.initialized RX2, Cond.code yX2_copyFrom cX2_copyFrom 2 none, Cond.fieldLink RX2 14 "ApplauseTallies$House" "settings" "LApplauseTallies$Row;", Cond.fieldLink RX2 23 "ApplauseTallies$House" "seats" "LApplauseTallies$Seats;", Cond.fieldLink RX2 30 "ApplauseTallies$House" "encores" "LApplauseTallies$Encores;", Cond.fieldLink RX2 34 "ApplauseTallies$House" "tonight" "LApplauseTallies$Row;", Cond.fieldLink RX2 37 "ApplauseTallies$House" "records" "LApplauseTallies$Row;"]
def wsX7_restore_r2 : List Cond := [Cond.fieldLink RX2 62 "ApplauseTallies$House" "applause" "I", Cond.fieldLink RX2 65 "ApplauseTallies$House" "time" "I", Cond.fieldLink RX2 68 "ApplauseTallies$House" "nights" "I", Cond.fieldLink RX2 40 "ApplauseTallies$House" "pieceBy" "I", Cond.fieldLink RX2 71 "ApplauseTallies$House" "pieceEnd" "I", Cond.fieldLink RX2 74 "ApplauseTallies$House" "encoreCame" "Z", Cond.methodLink RX2 52 yX5_copyFrom, Cond.instanceMethod yX5_copyFrom, Cond.selects RX5 yX5_copyFrom yX5_copyFrom, Cond.initialized RX5, Cond.code yX5_copyFrom cX5_copyFrom 2 none, Cond.fieldLink RX5 13 "ApplauseTallies$Row" "cells" "[I", Cond.methodLink RX5 19 Lib.Math.min.name, Cond.static Lib.Math.min.name, Cond.initialized "java/lang/Math", Cond.code Lib.Math.min.name Lib.Math.min.code 2 (some .int), Cond.methodLink RX5 22 arraycopyName, Cond.native arraycopyName, Cond.static arraycopyName, Cond.initialized "java/lang/System", Cond.methodLink RX2 56 yX6_copyFrom, Cond.instanceMethod yX6_copyFrom, Cond.selects RX6 yX6_copyFrom yX6_copyFrom, Cond.initialized RX6]
def wsX7_restore_r3 : List Cond := [Cond.code yX6_copyFrom cX6_copyFrom 2 none, Cond.fieldLink RX6 14 "ApplauseTallies$Seats" "loudness" "LApplauseTallies$Row;", Cond.fieldLink RX6 20 "ApplauseTallies$Seats" "early" "LApplauseTallies$Row;", Cond.fieldLink RX6 23 "ApplauseTallies$Seats" "clapsTonight" "LApplauseTallies$Row;", Cond.fieldLink RX6 26 "ApplauseTallies$Seats" "clapsSoFar" "LApplauseTallies$Row;", Cond.fieldLink RX6 29 "ApplauseTallies$Seats" "clappers" "LApplauseTallies$Row;", Cond.fieldLink RX6 39 "ApplauseTallies$Seats" "clapperCount" "I", Cond.fieldLink RX6 43 "ApplauseTallies$Seats" "paid" "I", Cond.fieldLink RX6 46 "ApplauseTallies$Seats" "clappedForPiece" "I", Cond.methodLink RX6 35 yX5_copyFrom, Cond.methodLink RX2 59 yX0_copyFrom, Cond.instanceMethod yX0_copyFrom, Cond.selects RX0 yX0_copyFrom yX0_copyFrom, Cond.initialized RX0, Cond.code yX0_copyFrom cX0_copyFrom 2 none, Cond.fieldLink RX0 14 "ApplauseTallies$Encores" "owers" "LApplauseTallies$Row;", Cond.fieldLink RX0 20 "ApplauseTallies$Encores" "since" "LApplauseTallies$Row;", Cond.fieldLink RX0 23 "ApplauseTallies$Encores" "played" "LApplauseTallies$Row;", Cond.fieldLink RX0 26 "ApplauseTallies$Encores" "lapsed" "LApplauseTallies$Row;", Cond.fieldLink RX0 29 "ApplauseTallies$Encores" "pieces" "LApplauseTallies$Row;", Cond.fieldLink RX0 36 "ApplauseTallies$Encores" "owedCount" "I", Cond.methodLink RX0 32 yX5_copyFrom, Cond.methodLink RX7 170 yX2_copyFrom, Cond.methodLink RX7 51 yX1_keepUnlessError]
def wsX7_restore_r4 : List Cond := [Cond.instanceMethod yX1_keepUnlessError, Cond.selects RX1 yX1_keepUnlessError yX1_keepUnlessError, Cond.code yX1_keepUnlessError cX1_keepUnlessError 2 (some .int), Cond.fieldLink RX1 18 "ApplauseTallies$History" "kept" "I", Cond.methodLink RX1 33 Lib.Math.min.name]
def wsX7_restore : List Cond := .code yX7_restore cX7_restore 3 (some .int) :: ((wsX7_restore_r1 ++ (wsX7_restore_r2 ++ (wsX7_restore_r3 ++ wsX7_restore_r4))) ++ wsX70 ++ wsX20 ++ wsX10 ++ wsX50 ++ wsX60 ++ wsX00)
def wsX8_setSeat : List Cond := .code yX8_setSeat cX8_setSeat 4 none :: ([.fieldLink RX8 7 "ApplauseTalliesModel" "state" "[I"] ++ wsX80)
def wsX8_init : List Cond := .code yX8_init cX8_init 2 none :: ([.methodLink RX8 1 objectInit, .instanceMethod objectInit, .code objectInit ⟨#[0xb1]⟩ 1 none, .arrayClass .int, .fieldLink RX8 7 "ApplauseTalliesModel" "state" "[I", .fieldLink RX8 13 "ApplauseTalliesModel" "spare" "[I", .fieldLink RX8 16 "ApplauseTalliesModel" "history" "[I", .fieldLink RX8 19 "ApplauseTalliesModel" "slots" "[I", .fieldLink RX8 22 "ApplauseTalliesModel" "isSaved" "[I", .fieldLink RX8 25 "ApplauseTalliesModel" "pad" "[I", .methodLink RX8 28 yX8_setSeat, .instanceMethod yX8_setSeat, .selects RX8 yX8_setSeat yX8_setSeat, .initialized RX8, .code yX8_setSeat cX8_setSeat 4 none] ++ wsX80)
def wsX8_within : List Cond := .code yX8_within cX8_within 3 (some .boolean) :: ([])
def wsX8_isSeat : List Cond := .code yX8_isSeat cX8_isSeat 1 (some .boolean) :: ([.methodLink RX8 32 yX8_within, .static yX8_within, .initialized RX8, .code yX8_within cX8_within 3 (some .boolean)])
def wsX8_isPerformer : List Cond := .code yX8_isPerformer cX8_isPerformer 1 (some .boolean) :: ([.methodLink RX8 32 yX8_within, .static yX8_within, .initialized RX8, .code yX8_within cX8_within 3 (some .boolean)])
def wsX8_seat : List Cond := .code yX8_seat cX8_seat 3 (some .int) :: ([.fieldLink RX8 7 "ApplauseTalliesModel" "state" "[I"] ++ wsX80)
def wsX8_ofPerformer : List Cond := .code yX8_ofPerformer cX8_ofPerformer 3 (some .int) :: ([.fieldLink RX8 7 "ApplauseTalliesModel" "state" "[I"] ++ wsX80)
def wsX8_putAside : List Cond := .code yX8_putAside cX8_putAside 2 none :: ([.fieldLink RX8 13 "ApplauseTalliesModel" "spare" "[I", .fieldLink RX8 7 "ApplauseTalliesModel" "state" "[I"] ++ wsX80)
def wsX8_push : List Cond := .code yX8_push cX8_push 2 none :: ([.fieldLink RX8 36 "ApplauseTalliesModel" "states" "I", .fieldLink RX8 16 "ApplauseTalliesModel" "history" "[I", .fieldLink RX8 13 "ApplauseTalliesModel" "spare" "[I"] ++ wsX80)
def wsX8_recorded : List Cond := .code yX8_recorded cX8_recorded 2 (some .int) :: ([.methodLink RX8 40 yX8_push, .instanceMethod yX8_push, .selects RX8 yX8_push yX8_push, .initialized RX8, .code yX8_push cX8_push 2 none, .fieldLink RX8 36 "ApplauseTalliesModel" "states" "I", .fieldLink RX8 16 "ApplauseTalliesModel" "history" "[I", .fieldLink RX8 13 "ApplauseTalliesModel" "spare" "[I"] ++ wsX80)
def wsX8_undo : List Cond := .code yX8_undo cX8_undo 2 (some .int) :: ([.fieldLink RX8 36 "ApplauseTalliesModel" "states" "I", .fieldLink RX8 7 "ApplauseTalliesModel" "state" "[I", .fieldLink RX8 16 "ApplauseTalliesModel" "history" "[I"] ++ wsX80)
def wsX8_isSlot : List Cond := .code yX8_isSlot cX8_isSlot 1 (some .boolean) :: ([.methodLink RX8 32 yX8_within, .static yX8_within, .initialized RX8, .code yX8_within cX8_within 3 (some .boolean)])
def wsX8_save : List Cond := .code yX8_save cX8_save 3 (some .int) :: ([.fieldLink RX8 19 "ApplauseTalliesModel" "slots" "[I", .fieldLink RX8 7 "ApplauseTalliesModel" "state" "[I", .fieldLink RX8 22 "ApplauseTalliesModel" "isSaved" "[I", .methodLink RX8 43 yX8_isSlot, .static yX8_isSlot, .initialized RX8, .code yX8_isSlot cX8_isSlot 1 (some .boolean), .methodLink RX8 32 yX8_within, .static yX8_within, .code yX8_within cX8_within 3 (some .boolean)] ++ wsX80)
def wsX8_restore : List Cond := .code yX8_restore cX8_restore 3 (some .int) :: ([.fieldLink RX8 22 "ApplauseTalliesModel" "isSaved" "[I", .fieldLink RX8 7 "ApplauseTalliesModel" "state" "[I", .fieldLink RX8 19 "ApplauseTalliesModel" "slots" "[I", .methodLink RX8 43 yX8_isSlot, .static yX8_isSlot, .initialized RX8, .code yX8_isSlot cX8_isSlot 1 (some .boolean), .methodLink RX8 32 yX8_within, .static yX8_within, .code yX8_within cX8_within 3 (some .boolean), .methodLink RX8 47 yX8_putAside, .instanceMethod yX8_putAside, .selects RX8 yX8_putAside yX8_putAside, .code yX8_putAside cX8_putAside 2 none, .fieldLink RX8 13 "ApplauseTalliesModel" "spare" "[I", .methodLink RX8 40 yX8_push, .instanceMethod yX8_push, .selects RX8 yX8_push yX8_push, .code yX8_push cX8_push 2 none, .fieldLink RX8 36 "ApplauseTalliesModel" "states" "I", .fieldLink RX8 16 "ApplauseTalliesModel" "history" "[I"] ++ wsX80)
def wsX8_owedFor : List Cond := .code yX8_owedFor cX8_owedFor 2 (some .int) :: ([.fieldLink RX8 7 "ApplauseTalliesModel" "state" "[I"] ++ wsX80)
def wsX8_countLapse : List Cond := .code yX8_countLapse cX8_countLapse 2 none :: ([.fieldLink RX8 7 "ApplauseTalliesModel" "state" "[I"] ++ wsX80)
def wsX8_owe : List Cond := .code yX8_owe cX8_owe 2 none :: ([.fieldLink RX8 7 "ApplauseTalliesModel" "state" "[I", .methodLink RX8 50 yX8_countLapse, .instanceMethod yX8_countLapse, .selects RX8 yX8_countLapse yX8_countLapse, .initialized RX8, .code yX8_countLapse cX8_countLapse 2 none] ++ wsX80)
def wsX8_drop : List Cond := .code yX8_drop cX8_drop 3 none :: ([.fieldLink RX8 7 "ApplauseTalliesModel" "state" "[I"] ++ wsX80)
def wsX8_owes : List Cond := .code yX8_owes cX8_owes 4 (some .int) :: ([.fieldLink RX8 7 "ApplauseTalliesModel" "state" "[I"] ++ wsX80)
def wsX8_earliest : List Cond := .code yX8_earliest cX8_earliest 3 (some .int) :: ([.fieldLink RX8 7 "ApplauseTalliesModel" "state" "[I"] ++ wsX80)
def wsX8_end : List Cond := .code yX8_end cX8_end 4 (some .int) :: ([.fieldLink RX8 7 "ApplauseTalliesModel" "state" "[I", .methodLink RX8 28 yX8_setSeat, .instanceMethod yX8_setSeat, .selects RX8 yX8_setSeat yX8_setSeat, .initialized RX8, .code yX8_setSeat cX8_setSeat 4 none] ++ wsX80)
def wsX8_doEnds : List Cond := .code yX8_doEnds cX8_doEnds 2 (some .int) :: ([.methodLink RX8 54 yX8_isPerformer, .static yX8_isPerformer, .initialized RX8, .code yX8_isPerformer cX8_isPerformer 1 (some .boolean), .methodLink RX8 32 yX8_within, .static yX8_within, .code yX8_within cX8_within 3 (some .boolean), .methodLink RX8 57 yX8_end, .instanceMethod yX8_end, .selects RX8 yX8_end yX8_end, .code yX8_end cX8_end 4 (some .int), .fieldLink RX8 7 "ApplauseTalliesModel" "state" "[I", .methodLink RX8 28 yX8_setSeat, .instanceMethod yX8_setSeat, .selects RX8 yX8_setSeat yX8_setSeat, .code yX8_setSeat cX8_setSeat 4 none] ++ wsX80)
def wsX8_countClap : List Cond := .code yX8_countClap cX8_countClap 2 none :: ([.fieldLink RX8 7 "ApplauseTalliesModel" "state" "[I", .methodLink RX8 61 yX8_seat, .instanceMethod yX8_seat, .selects RX8 yX8_seat yX8_seat, .initialized RX8, .code yX8_seat cX8_seat 3 (some .int), .methodLink RX8 28 yX8_setSeat, .instanceMethod yX8_setSeat, .selects RX8 yX8_setSeat yX8_setSeat, .code yX8_setSeat cX8_setSeat 4 none] ++ wsX80)
def wsX8_doClap_r1 : List Cond := [Cond.fieldLink RX8 7 "ApplauseTalliesModel" "state" "[I", Cond.methodLink RX8 65 yX8_isSeat, Cond.static yX8_isSeat, Cond.initialized RX8, Cond.code yX8_isSeat cX8_isSeat 1 (some .boolean), Cond.methodLink RX8 32 yX8_within, Cond.static yX8_within, Cond.code yX8_within cX8_within 3 (some .boolean), Cond.methodLink RX8 61 yX8_seat, Cond.instanceMethod yX8_seat, Cond.selects RX8 yX8_seat yX8_seat, Cond.code yX8_seat cX8_seat 3 (some .int), Cond.methodLink RX8 68 yX8_countClap, Cond.instanceMethod yX8_countClap, Cond.selects RX8 yX8_countClap yX8_countClap, Cond.code yX8_countClap cX8_countClap 2 none, Cond.methodLink RX8 28 yX8_setSeat, Cond.instanceMethod yX8_setSeat, Cond.selects RX8 yX8_setSeat yX8_setSeat, Cond.code yX8_setSeat cX8_setSeat 4 none, Cond.methodLink RX8 71 yX8_owe, Cond.instanceMethod yX8_owe, Cond.selects RX8 yX8_owe yX8_owe, Cond.code yX8_owe cX8_owe 2 none]
def wsX8_doClap_r2 : List Cond := [Cond.methodLink RX8 50 yX8_countLapse, Cond.instanceMethod yX8_countLapse, Cond.selects RX8 yX8_countLapse yX8_countLapse, Cond.code yX8_countLapse cX8_countLapse 2 none]
def wsX8_doClap : List Cond := .code yX8_doClap cX8_doClap 3 (some .int) :: ((wsX8_doClap_r1 ++ wsX8_doClap_r2) ++ wsX80)
def wsX8_decayed : List Cond := .code yX8_decayed cX8_decayed 3 (some .int) :: ([.fieldLink RX8 7 "ApplauseTalliesModel" "state" "[I"] ++ wsX80)
def wsX8_passSecond : List Cond := .code yX8_passSecond cX8_passSecond 2 none :: ([.fieldLink RX8 7 "ApplauseTalliesModel" "state" "[I", .methodLink RX8 74 yX8_decayed, .instanceMethod yX8_decayed, .selects RX8 yX8_decayed yX8_decayed, .initialized RX8, .code yX8_decayed cX8_decayed 3 (some .int), .methodLink RX8 77 yX8_owedFor, .instanceMethod yX8_owedFor, .selects RX8 yX8_owedFor yX8_owedFor, .code yX8_owedFor cX8_owedFor 2 (some .int), .methodLink RX8 50 yX8_countLapse, .instanceMethod yX8_countLapse, .selects RX8 yX8_countLapse yX8_countLapse, .code yX8_countLapse cX8_countLapse 2 none, .methodLink RX8 80 yX8_drop, .instanceMethod yX8_drop, .selects RX8 yX8_drop yX8_drop, .code yX8_drop cX8_drop 3 none] ++ wsX80)
def wsX8_doPass_r1 : List Cond := [Cond.fieldLink RX8 7 "ApplauseTalliesModel" "state" "[I", Cond.constant RX8 83 (99999), Cond.methodLink RX8 32 yX8_within, Cond.static yX8_within, Cond.initialized RX8, Cond.code yX8_within cX8_within 3 (some .boolean), Cond.methodLink RX8 84 yX8_passSecond, Cond.instanceMethod yX8_passSecond, Cond.selects RX8 yX8_passSecond yX8_passSecond, Cond.code yX8_passSecond cX8_passSecond 2 none, Cond.methodLink RX8 74 yX8_decayed, Cond.instanceMethod yX8_decayed, Cond.selects RX8 yX8_decayed yX8_decayed, Cond.code yX8_decayed cX8_decayed 3 (some .int), Cond.methodLink RX8 77 yX8_owedFor, Cond.instanceMethod yX8_owedFor, Cond.selects RX8 yX8_owedFor yX8_owedFor, Cond.code yX8_owedFor cX8_owedFor 2 (some .int), Cond.methodLink RX8 50 yX8_countLapse, Cond.instanceMethod yX8_countLapse, Cond.selects RX8 yX8_countLapse yX8_countLapse, Cond.code yX8_countLapse cX8_countLapse 2 none, Cond.methodLink RX8 80 yX8_drop, Cond.instanceMethod yX8_drop]
def wsX8_doPass_r2 : List Cond := [Cond.selects RX8 yX8_drop yX8_drop, Cond.code yX8_drop cX8_drop 3 none]
def wsX8_doPass : List Cond := .code yX8_doPass cX8_doPass 3 (some .int) :: ((wsX8_doPass_r1 ++ wsX8_doPass_r2) ++ wsX80)
def wsX8_doPlay_r1 : List Cond := [Cond.fieldLink RX8 7 "ApplauseTalliesModel" "state" "[I", Cond.methodLink RX8 54 yX8_isPerformer, Cond.static yX8_isPerformer, Cond.initialized RX8, Cond.code yX8_isPerformer cX8_isPerformer 1 (some .boolean), Cond.methodLink RX8 32 yX8_within, Cond.static yX8_within, Cond.code yX8_within cX8_within 3 (some .boolean), Cond.methodLink RX8 87 yX8_earliest, Cond.instanceMethod yX8_earliest, Cond.selects RX8 yX8_earliest yX8_earliest, Cond.code yX8_earliest cX8_earliest 3 (some .int), Cond.methodLink RX8 80 yX8_drop, Cond.instanceMethod yX8_drop, Cond.selects RX8 yX8_drop yX8_drop, Cond.code yX8_drop cX8_drop 3 none, Cond.methodLink RX8 57 yX8_end, Cond.instanceMethod yX8_end, Cond.selects RX8 yX8_end yX8_end, Cond.code yX8_end cX8_end 4 (some .int), Cond.methodLink RX8 28 yX8_setSeat, Cond.instanceMethod yX8_setSeat, Cond.selects RX8 yX8_setSeat yX8_setSeat, Cond.code yX8_setSeat cX8_setSeat 4 none]
def wsX8_doPlay_r2 : List Cond := [Cond.methodLink RX8 90 yX8_owes, Cond.instanceMethod yX8_owes, Cond.selects RX8 yX8_owes yX8_owes, Cond.code yX8_owes cX8_owes 4 (some .int)]
def wsX8_doPlay : List Cond := .code yX8_doPlay cX8_doPlay 4 (some .int) :: ((wsX8_doPlay_r1 ++ wsX8_doPlay_r2) ++ wsX80)
def wsX8_doCall : List Cond := .code yX8_doCall cX8_doCall 1 (some .int) :: ([.fieldLink RX8 7 "ApplauseTalliesModel" "state" "[I"] ++ wsX80)
def wsX8_keepRecord : List Cond := .code yX8_keepRecord cX8_keepRecord 2 none :: ([.fieldLink RX8 7 "ApplauseTalliesModel" "state" "[I"] ++ wsX80)
def wsX8_doNight : List Cond := .code yX8_doNight cX8_doNight 3 (some .int) :: ([.fieldLink RX8 7 "ApplauseTalliesModel" "state" "[I", .methodLink RX8 50 yX8_countLapse, .instanceMethod yX8_countLapse, .selects RX8 yX8_countLapse yX8_countLapse, .initialized RX8, .code yX8_countLapse cX8_countLapse 2 none, .methodLink RX8 93 yX8_keepRecord, .instanceMethod yX8_keepRecord, .selects RX8 yX8_keepRecord yX8_keepRecord, .code yX8_keepRecord cX8_keepRecord 2 none, .methodLink RX8 28 yX8_setSeat, .instanceMethod yX8_setSeat, .selects RX8 yX8_setSeat yX8_setSeat, .code yX8_setSeat cX8_setSeat 4 none] ++ wsX80)
def wsX8_those : List Cond := .code yX8_those cX8_those 6 (some .int) :: ([.methodLink RX8 61 yX8_seat, .instanceMethod yX8_seat, .selects RX8 yX8_seat yX8_seat, .initialized RX8, .code yX8_seat cX8_seat 3 (some .int), .fieldLink RX8 7 "ApplauseTalliesModel" "state" "[I"] ++ wsX80)
def wsX8_doPay : List Cond := .code yX8_doPay cX8_doPay 2 (some .int) :: ([.methodLink RX8 65 yX8_isSeat, .static yX8_isSeat, .initialized RX8, .code yX8_isSeat cX8_isSeat 1 (some .boolean), .methodLink RX8 32 yX8_within, .static yX8_within, .code yX8_within cX8_within 3 (some .boolean), .methodLink RX8 61 yX8_seat, .instanceMethod yX8_seat, .selects RX8 yX8_seat yX8_seat, .code yX8_seat cX8_seat 3 (some .int), .fieldLink RX8 7 "ApplauseTalliesModel" "state" "[I", .methodLink RX8 28 yX8_setSeat, .instanceMethod yX8_setSeat, .selects RX8 yX8_setSeat yX8_setSeat, .code yX8_setSeat cX8_setSeat 4 none, .methodLink RX8 96 yX8_those, .instanceMethod yX8_those, .selects RX8 yX8_those yX8_those, .code yX8_those cX8_those 6 (some .int)] ++ wsX80)
def wsX8_leastOf : List Cond := .code yX8_leastOf cX8_leastOf 1 (some .int) :: ([])
def wsX8_mostOf : List Cond := .code yX8_mostOf cX8_mostOf 1 (some .int) :: ([])
def wsX8_set_r1 : List Cond := [Cond.fieldLink RX8 7 "ApplauseTalliesModel" "state" "[I", Cond.methodLink RX8 32 yX8_within, Cond.static yX8_within, Cond.initialized RX8, Cond.code yX8_within cX8_within 3 (some .boolean), Cond.methodLink RX8 100 yX8_leastOf, Cond.static yX8_leastOf, Cond.code yX8_leastOf cX8_leastOf 1 (some .int), Cond.methodLink RX8 103 yX8_mostOf, Cond.static yX8_mostOf, Cond.code yX8_mostOf cX8_mostOf 1 (some .int), Cond.methodLink RX8 47 yX8_putAside, Cond.instanceMethod yX8_putAside, Cond.selects RX8 yX8_putAside yX8_putAside, Cond.code yX8_putAside cX8_putAside 2 none, Cond.fieldLink RX8 13 "ApplauseTalliesModel" "spare" "[I", Cond.methodLink RX8 106 yX8_recorded, Cond.instanceMethod yX8_recorded, Cond.selects RX8 yX8_recorded yX8_recorded, Cond.code yX8_recorded cX8_recorded 2 (some .int), Cond.methodLink RX8 40 yX8_push, Cond.instanceMethod yX8_push, Cond.selects RX8 yX8_push yX8_push, Cond.code yX8_push cX8_push 2 none]
def wsX8_set_r2 : List Cond := [Cond.fieldLink RX8 36 "ApplauseTalliesModel" "states" "I", Cond.fieldLink RX8 16 "ApplauseTalliesModel" "history" "[I"]
def wsX8_set : List Cond := .code yX8_set cX8_set 4 (some .int) :: ((wsX8_set_r1 ++ wsX8_set_r2) ++ wsX80)
def wsX8_loud_r1 : List Cond := [Cond.methodLink RX8 65 yX8_isSeat, Cond.static yX8_isSeat, Cond.initialized RX8, Cond.code yX8_isSeat cX8_isSeat 1 (some .boolean), Cond.methodLink RX8 32 yX8_within, Cond.static yX8_within, Cond.code yX8_within cX8_within 3 (some .boolean), Cond.methodLink RX8 47 yX8_putAside, Cond.instanceMethod yX8_putAside, Cond.selects RX8 yX8_putAside yX8_putAside, Cond.code yX8_putAside cX8_putAside 2 none, Cond.fieldLink RX8 13 "ApplauseTalliesModel" "spare" "[I", Cond.fieldLink RX8 7 "ApplauseTalliesModel" "state" "[I", Cond.methodLink RX8 61 yX8_seat, Cond.instanceMethod yX8_seat, Cond.selects RX8 yX8_seat yX8_seat, Cond.code yX8_seat cX8_seat 3 (some .int), Cond.methodLink RX8 28 yX8_setSeat, Cond.instanceMethod yX8_setSeat, Cond.selects RX8 yX8_setSeat yX8_setSeat, Cond.code yX8_setSeat cX8_setSeat 4 none, Cond.methodLink RX8 106 yX8_recorded, Cond.instanceMethod yX8_recorded, Cond.selects RX8 yX8_recorded yX8_recorded]
def wsX8_loud_r2 : List Cond := [Cond.code yX8_recorded cX8_recorded 2 (some .int), Cond.methodLink RX8 40 yX8_push, Cond.instanceMethod yX8_push, Cond.selects RX8 yX8_push yX8_push, Cond.code yX8_push cX8_push 2 none, Cond.fieldLink RX8 36 "ApplauseTalliesModel" "states" "I", Cond.fieldLink RX8 16 "ApplauseTalliesModel" "history" "[I"]
def wsX8_loud : List Cond := .code yX8_loud cX8_loud 4 (some .int) :: ((wsX8_loud_r1 ++ wsX8_loud_r2) ++ wsX80)
def wsX8_pay_r1 : List Cond := [Cond.methodLink RX8 47 yX8_putAside, Cond.instanceMethod yX8_putAside, Cond.selects RX8 yX8_putAside yX8_putAside, Cond.initialized RX8, Cond.code yX8_putAside cX8_putAside 2 none, Cond.fieldLink RX8 13 "ApplauseTalliesModel" "spare" "[I", Cond.fieldLink RX8 7 "ApplauseTalliesModel" "state" "[I", Cond.methodLink RX8 109 yX8_doPay, Cond.instanceMethod yX8_doPay, Cond.selects RX8 yX8_doPay yX8_doPay, Cond.code yX8_doPay cX8_doPay 2 (some .int), Cond.methodLink RX8 65 yX8_isSeat, Cond.static yX8_isSeat, Cond.code yX8_isSeat cX8_isSeat 1 (some .boolean), Cond.methodLink RX8 32 yX8_within, Cond.static yX8_within, Cond.code yX8_within cX8_within 3 (some .boolean), Cond.methodLink RX8 61 yX8_seat, Cond.instanceMethod yX8_seat, Cond.selects RX8 yX8_seat yX8_seat, Cond.code yX8_seat cX8_seat 3 (some .int), Cond.methodLink RX8 28 yX8_setSeat, Cond.instanceMethod yX8_setSeat, Cond.selects RX8 yX8_setSeat yX8_setSeat]
def wsX8_pay_r2 : List Cond := [Cond.code yX8_setSeat cX8_setSeat 4 none, Cond.methodLink RX8 96 yX8_those, Cond.instanceMethod yX8_those, Cond.selects RX8 yX8_those yX8_those, Cond.code yX8_those cX8_those 6 (some .int), Cond.methodLink RX8 106 yX8_recorded, Cond.instanceMethod yX8_recorded, Cond.selects RX8 yX8_recorded yX8_recorded, Cond.code yX8_recorded cX8_recorded 2 (some .int), Cond.methodLink RX8 40 yX8_push, Cond.instanceMethod yX8_push, Cond.selects RX8 yX8_push yX8_push, Cond.code yX8_push cX8_push 2 none, Cond.fieldLink RX8 36 "ApplauseTalliesModel" "states" "I", Cond.fieldLink RX8 16 "ApplauseTalliesModel" "history" "[I"]
def wsX8_pay : List Cond := .code yX8_pay cX8_pay 2 (some .int) :: ((wsX8_pay_r1 ++ wsX8_pay_r2) ++ wsX80)
def wsX8_ends_r1 : List Cond := [Cond.methodLink RX8 47 yX8_putAside, Cond.instanceMethod yX8_putAside, Cond.selects RX8 yX8_putAside yX8_putAside, Cond.initialized RX8, Cond.code yX8_putAside cX8_putAside 2 none, Cond.fieldLink RX8 13 "ApplauseTalliesModel" "spare" "[I", Cond.fieldLink RX8 7 "ApplauseTalliesModel" "state" "[I", Cond.methodLink RX8 112 yX8_doEnds, Cond.instanceMethod yX8_doEnds, Cond.selects RX8 yX8_doEnds yX8_doEnds, Cond.code yX8_doEnds cX8_doEnds 2 (some .int), Cond.methodLink RX8 54 yX8_isPerformer, Cond.static yX8_isPerformer, Cond.code yX8_isPerformer cX8_isPerformer 1 (some .boolean), Cond.methodLink RX8 32 yX8_within, Cond.static yX8_within, Cond.code yX8_within cX8_within 3 (some .boolean), Cond.methodLink RX8 57 yX8_end, Cond.instanceMethod yX8_end, Cond.selects RX8 yX8_end yX8_end, Cond.code yX8_end cX8_end 4 (some .int), Cond.methodLink RX8 28 yX8_setSeat, Cond.instanceMethod yX8_setSeat, Cond.selects RX8 yX8_setSeat yX8_setSeat]
def wsX8_ends_r2 : List Cond := [Cond.code yX8_setSeat cX8_setSeat 4 none, Cond.methodLink RX8 106 yX8_recorded, Cond.instanceMethod yX8_recorded, Cond.selects RX8 yX8_recorded yX8_recorded, Cond.code yX8_recorded cX8_recorded 2 (some .int), Cond.methodLink RX8 40 yX8_push, Cond.instanceMethod yX8_push, Cond.selects RX8 yX8_push yX8_push, Cond.code yX8_push cX8_push 2 none, Cond.fieldLink RX8 36 "ApplauseTalliesModel" "states" "I", Cond.fieldLink RX8 16 "ApplauseTalliesModel" "history" "[I"]
def wsX8_ends : List Cond := .code yX8_ends cX8_ends 2 (some .int) :: ((wsX8_ends_r1 ++ wsX8_ends_r2) ++ wsX80)
def wsX8_clap_r1 : List Cond := [Cond.methodLink RX8 47 yX8_putAside, Cond.instanceMethod yX8_putAside, Cond.selects RX8 yX8_putAside yX8_putAside, Cond.initialized RX8, Cond.code yX8_putAside cX8_putAside 2 none, Cond.fieldLink RX8 13 "ApplauseTalliesModel" "spare" "[I", Cond.fieldLink RX8 7 "ApplauseTalliesModel" "state" "[I", Cond.methodLink RX8 115 yX8_doClap, Cond.instanceMethod yX8_doClap, Cond.selects RX8 yX8_doClap yX8_doClap, Cond.code yX8_doClap cX8_doClap 3 (some .int), Cond.methodLink RX8 65 yX8_isSeat, Cond.static yX8_isSeat, Cond.code yX8_isSeat cX8_isSeat 1 (some .boolean), Cond.methodLink RX8 32 yX8_within, Cond.static yX8_within, Cond.code yX8_within cX8_within 3 (some .boolean), Cond.methodLink RX8 61 yX8_seat, Cond.instanceMethod yX8_seat, Cond.selects RX8 yX8_seat yX8_seat, Cond.code yX8_seat cX8_seat 3 (some .int), Cond.methodLink RX8 68 yX8_countClap, Cond.instanceMethod yX8_countClap, Cond.selects RX8 yX8_countClap yX8_countClap]
def wsX8_clap_r2 : List Cond := [Cond.code yX8_countClap cX8_countClap 2 none, Cond.methodLink RX8 28 yX8_setSeat, Cond.instanceMethod yX8_setSeat, Cond.selects RX8 yX8_setSeat yX8_setSeat, Cond.code yX8_setSeat cX8_setSeat 4 none, Cond.methodLink RX8 71 yX8_owe, Cond.instanceMethod yX8_owe, Cond.selects RX8 yX8_owe yX8_owe, Cond.code yX8_owe cX8_owe 2 none, Cond.methodLink RX8 50 yX8_countLapse, Cond.instanceMethod yX8_countLapse, Cond.selects RX8 yX8_countLapse yX8_countLapse, Cond.code yX8_countLapse cX8_countLapse 2 none, Cond.methodLink RX8 106 yX8_recorded, Cond.instanceMethod yX8_recorded, Cond.selects RX8 yX8_recorded yX8_recorded, Cond.code yX8_recorded cX8_recorded 2 (some .int), Cond.methodLink RX8 40 yX8_push, Cond.instanceMethod yX8_push, Cond.selects RX8 yX8_push yX8_push, Cond.code yX8_push cX8_push 2 none, Cond.fieldLink RX8 36 "ApplauseTalliesModel" "states" "I", Cond.fieldLink RX8 16 "ApplauseTalliesModel" "history" "[I"]
def wsX8_clap : List Cond := .code yX8_clap cX8_clap 2 (some .int) :: ((wsX8_clap_r1 ++ wsX8_clap_r2) ++ wsX80)
def wsX8_pass_r1 : List Cond := [Cond.methodLink RX8 47 yX8_putAside, Cond.instanceMethod yX8_putAside, Cond.selects RX8 yX8_putAside yX8_putAside, Cond.initialized RX8, Cond.code yX8_putAside cX8_putAside 2 none, Cond.fieldLink RX8 13 "ApplauseTalliesModel" "spare" "[I", Cond.fieldLink RX8 7 "ApplauseTalliesModel" "state" "[I", Cond.methodLink RX8 118 yX8_doPass, Cond.instanceMethod yX8_doPass, Cond.selects RX8 yX8_doPass yX8_doPass, Cond.code yX8_doPass cX8_doPass 3 (some .int), Cond.constant RX8 83 (99999), Cond.methodLink RX8 32 yX8_within, Cond.static yX8_within, Cond.code yX8_within cX8_within 3 (some .boolean), Cond.methodLink RX8 84 yX8_passSecond, Cond.instanceMethod yX8_passSecond, Cond.selects RX8 yX8_passSecond yX8_passSecond, Cond.code yX8_passSecond cX8_passSecond 2 none, Cond.methodLink RX8 74 yX8_decayed, Cond.instanceMethod yX8_decayed, Cond.selects RX8 yX8_decayed yX8_decayed, Cond.code yX8_decayed cX8_decayed 3 (some .int), Cond.methodLink RX8 77 yX8_owedFor]
def wsX8_pass_r2 : List Cond := [Cond.instanceMethod yX8_owedFor, Cond.selects RX8 yX8_owedFor yX8_owedFor, Cond.code yX8_owedFor cX8_owedFor 2 (some .int), Cond.methodLink RX8 50 yX8_countLapse, Cond.instanceMethod yX8_countLapse, Cond.selects RX8 yX8_countLapse yX8_countLapse, Cond.code yX8_countLapse cX8_countLapse 2 none, Cond.methodLink RX8 80 yX8_drop, Cond.instanceMethod yX8_drop, Cond.selects RX8 yX8_drop yX8_drop, Cond.code yX8_drop cX8_drop 3 none, Cond.methodLink RX8 106 yX8_recorded, Cond.instanceMethod yX8_recorded, Cond.selects RX8 yX8_recorded yX8_recorded, Cond.code yX8_recorded cX8_recorded 2 (some .int), Cond.methodLink RX8 40 yX8_push, Cond.instanceMethod yX8_push, Cond.selects RX8 yX8_push yX8_push, Cond.code yX8_push cX8_push 2 none, Cond.fieldLink RX8 36 "ApplauseTalliesModel" "states" "I", Cond.fieldLink RX8 16 "ApplauseTalliesModel" "history" "[I"]
def wsX8_pass : List Cond := .code yX8_pass cX8_pass 2 (some .int) :: ((wsX8_pass_r1 ++ wsX8_pass_r2) ++ wsX80)
def wsX8_play_r1 : List Cond := [Cond.methodLink RX8 47 yX8_putAside, Cond.instanceMethod yX8_putAside, Cond.selects RX8 yX8_putAside yX8_putAside, Cond.initialized RX8, Cond.code yX8_putAside cX8_putAside 2 none, Cond.fieldLink RX8 13 "ApplauseTalliesModel" "spare" "[I", Cond.fieldLink RX8 7 "ApplauseTalliesModel" "state" "[I", Cond.methodLink RX8 121 yX8_doPlay, Cond.instanceMethod yX8_doPlay, Cond.selects RX8 yX8_doPlay yX8_doPlay, Cond.code yX8_doPlay cX8_doPlay 4 (some .int), Cond.methodLink RX8 54 yX8_isPerformer, Cond.static yX8_isPerformer, Cond.code yX8_isPerformer cX8_isPerformer 1 (some .boolean), Cond.methodLink RX8 32 yX8_within, Cond.static yX8_within, Cond.code yX8_within cX8_within 3 (some .boolean), Cond.methodLink RX8 87 yX8_earliest, Cond.instanceMethod yX8_earliest, Cond.selects RX8 yX8_earliest yX8_earliest, Cond.code yX8_earliest cX8_earliest 3 (some .int), Cond.methodLink RX8 80 yX8_drop, Cond.instanceMethod yX8_drop, Cond.selects RX8 yX8_drop yX8_drop]
def wsX8_play_r2 : List Cond := [Cond.code yX8_drop cX8_drop 3 none, Cond.methodLink RX8 57 yX8_end, Cond.instanceMethod yX8_end, Cond.selects RX8 yX8_end yX8_end, Cond.code yX8_end cX8_end 4 (some .int), Cond.methodLink RX8 28 yX8_setSeat, Cond.instanceMethod yX8_setSeat, Cond.selects RX8 yX8_setSeat yX8_setSeat, Cond.code yX8_setSeat cX8_setSeat 4 none, Cond.methodLink RX8 90 yX8_owes, Cond.instanceMethod yX8_owes, Cond.selects RX8 yX8_owes yX8_owes, Cond.code yX8_owes cX8_owes 4 (some .int), Cond.methodLink RX8 106 yX8_recorded, Cond.instanceMethod yX8_recorded, Cond.selects RX8 yX8_recorded yX8_recorded, Cond.code yX8_recorded cX8_recorded 2 (some .int), Cond.methodLink RX8 40 yX8_push, Cond.instanceMethod yX8_push, Cond.selects RX8 yX8_push yX8_push, Cond.code yX8_push cX8_push 2 none, Cond.fieldLink RX8 36 "ApplauseTalliesModel" "states" "I", Cond.fieldLink RX8 16 "ApplauseTalliesModel" "history" "[I"]
def wsX8_play : List Cond := .code yX8_play cX8_play 2 (some .int) :: ((wsX8_play_r1 ++ wsX8_play_r2) ++ wsX80)
def wsX8_call : List Cond := .code yX8_call cX8_call 1 (some .int) :: ([.methodLink RX8 47 yX8_putAside, .instanceMethod yX8_putAside, .selects RX8 yX8_putAside yX8_putAside, .initialized RX8, .code yX8_putAside cX8_putAside 2 none, .fieldLink RX8 13 "ApplauseTalliesModel" "spare" "[I", .fieldLink RX8 7 "ApplauseTalliesModel" "state" "[I", .methodLink RX8 124 yX8_doCall, .instanceMethod yX8_doCall, .selects RX8 yX8_doCall yX8_doCall, .code yX8_doCall cX8_doCall 1 (some .int), .methodLink RX8 106 yX8_recorded, .instanceMethod yX8_recorded, .selects RX8 yX8_recorded yX8_recorded, .code yX8_recorded cX8_recorded 2 (some .int), .methodLink RX8 40 yX8_push, .instanceMethod yX8_push, .selects RX8 yX8_push yX8_push, .code yX8_push cX8_push 2 none, .fieldLink RX8 36 "ApplauseTalliesModel" "states" "I", .fieldLink RX8 16 "ApplauseTalliesModel" "history" "[I"] ++ wsX80)
def wsX8_night_r1 : List Cond := [Cond.methodLink RX8 47 yX8_putAside, Cond.instanceMethod yX8_putAside, Cond.selects RX8 yX8_putAside yX8_putAside, Cond.initialized RX8, Cond.code yX8_putAside cX8_putAside 2 none, Cond.fieldLink RX8 13 "ApplauseTalliesModel" "spare" "[I", Cond.fieldLink RX8 7 "ApplauseTalliesModel" "state" "[I", Cond.methodLink RX8 128 yX8_doNight, Cond.instanceMethod yX8_doNight, Cond.selects RX8 yX8_doNight yX8_doNight, Cond.code yX8_doNight cX8_doNight 3 (some .int), Cond.methodLink RX8 50 yX8_countLapse, Cond.instanceMethod yX8_countLapse, Cond.selects RX8 yX8_countLapse yX8_countLapse, Cond.code yX8_countLapse cX8_countLapse 2 none, Cond.methodLink RX8 93 yX8_keepRecord, Cond.instanceMethod yX8_keepRecord, Cond.selects RX8 yX8_keepRecord yX8_keepRecord, Cond.code yX8_keepRecord cX8_keepRecord 2 none, Cond.methodLink RX8 28 yX8_setSeat, Cond.instanceMethod yX8_setSeat, Cond.selects RX8 yX8_setSeat yX8_setSeat, Cond.code yX8_setSeat cX8_setSeat 4 none, Cond.methodLink RX8 106 yX8_recorded]
def wsX8_night_r2 : List Cond := [Cond.instanceMethod yX8_recorded, Cond.selects RX8 yX8_recorded yX8_recorded, Cond.code yX8_recorded cX8_recorded 2 (some .int), Cond.methodLink RX8 40 yX8_push, Cond.instanceMethod yX8_push, Cond.selects RX8 yX8_push yX8_push, Cond.code yX8_push cX8_push 2 none, Cond.fieldLink RX8 36 "ApplauseTalliesModel" "states" "I", Cond.fieldLink RX8 16 "ApplauseTalliesModel" "history" "[I"]
def wsX8_night : List Cond := .code yX8_night cX8_night 1 (some .int) :: ((wsX8_night_r1 ++ wsX8_night_r2) ++ wsX80)
def wsX8_writeSign : List Cond := .code yX8_writeSign cX8_writeSign 2 none :: ([.fieldLink RX8 25 "ApplauseTalliesModel" "pad" "[I", .fieldLink RX8 131 "ApplauseTalliesModel" "length" "I"] ++ wsX80)
def wsX8_writeNumber : List Cond := .code yX8_writeNumber cX8_writeNumber 3 none :: ([.methodLink RX8 134 yX8_writeSign, .instanceMethod yX8_writeSign, .selects RX8 yX8_writeSign yX8_writeSign, .initialized RX8, .code yX8_writeSign cX8_writeSign 2 none, .fieldLink RX8 25 "ApplauseTalliesModel" "pad" "[I", .fieldLink RX8 131 "ApplauseTalliesModel" "length" "I"] ++ wsX80)
def wsX8_write : List Cond := .code yX8_write cX8_write 2 (some .int) :: ([.fieldLink RX8 131 "ApplauseTalliesModel" "length" "I", .fieldLink RX8 7 "ApplauseTalliesModel" "state" "[I", .methodLink RX8 134 yX8_writeSign, .instanceMethod yX8_writeSign, .selects RX8 yX8_writeSign yX8_writeSign, .initialized RX8, .code yX8_writeSign cX8_writeSign 2 none, .fieldLink RX8 25 "ApplauseTalliesModel" "pad" "[I", .methodLink RX8 137 yX8_writeNumber, .instanceMethod yX8_writeNumber, .selects RX8 yX8_writeNumber yX8_writeNumber, .code yX8_writeNumber cX8_writeNumber 3 none, .methodLink RX8 90 yX8_owes, .instanceMethod yX8_owes, .selects RX8 yX8_owes yX8_owes, .code yX8_owes cX8_owes 4 (some .int)] ++ wsX80)
def wsX8_of : List Cond := .code yX8_of cX8_of 3 (some .int) :: ([.fieldLink RX8 7 "ApplauseTalliesModel" "state" "[I", .methodLink RX8 65 yX8_isSeat, .static yX8_isSeat, .initialized RX8, .code yX8_isSeat cX8_isSeat 1 (some .boolean), .methodLink RX8 32 yX8_within, .static yX8_within, .code yX8_within cX8_within 3 (some .boolean), .methodLink RX8 61 yX8_seat, .instanceMethod yX8_seat, .selects RX8 yX8_seat yX8_seat, .code yX8_seat cX8_seat 3 (some .int)] ++ wsX80)
def wsX8_performer : List Cond := .code yX8_performer cX8_performer 3 (some .int) :: ([.methodLink RX8 54 yX8_isPerformer, .static yX8_isPerformer, .initialized RX8, .code yX8_isPerformer cX8_isPerformer 1 (some .boolean), .methodLink RX8 32 yX8_within, .static yX8_within, .code yX8_within cX8_within 3 (some .boolean), .methodLink RX8 90 yX8_owes, .instanceMethod yX8_owes, .selects RX8 yX8_owes yX8_owes, .code yX8_owes cX8_owes 4 (some .int), .fieldLink RX8 7 "ApplauseTalliesModel" "state" "[I", .methodLink RX8 140 yX8_ofPerformer, .instanceMethod yX8_ofPerformer, .selects RX8 yX8_ofPerformer yX8_ofPerformer, .code yX8_ofPerformer cX8_ofPerformer 3 (some .int)] ++ wsX80)
def wsX8_owed : List Cond := .code yX8_owed cX8_owed 3 (some .int) :: ([.fieldLink RX8 7 "ApplauseTalliesModel" "state" "[I", .methodLink RX8 32 yX8_within, .static yX8_within, .initialized RX8, .code yX8_within cX8_within 3 (some .boolean), .methodLink RX8 77 yX8_owedFor, .instanceMethod yX8_owedFor, .selects RX8 yX8_owedFor yX8_owedFor, .code yX8_owedFor cX8_owedFor 2 (some .int)] ++ wsX80)
def wsX8_clapper : List Cond := .code yX8_clapper cX8_clapper 2 (some .int) :: ([.fieldLink RX8 7 "ApplauseTalliesModel" "state" "[I", .methodLink RX8 32 yX8_within, .static yX8_within, .initialized RX8, .code yX8_within cX8_within 3 (some .boolean)] ++ wsX80)
def wsX8_record : List Cond := .code yX8_record cX8_record 3 (some .int) :: ([.fieldLink RX8 7 "ApplauseTalliesModel" "state" "[I", .methodLink RX8 32 yX8_within, .static yX8_within, .initialized RX8, .code yX8_within cX8_within 3 (some .boolean)] ++ wsX80)
def wsX8_sign : List Cond := .code yX8_sign cX8_sign 2 (some .int) :: ([.fieldLink RX8 131 "ApplauseTalliesModel" "length" "I", .fieldLink RX8 25 "ApplauseTalliesModel" "pad" "[I", .methodLink RX8 32 yX8_within, .static yX8_within, .initialized RX8, .code yX8_within cX8_within 3 (some .boolean)] ++ wsX80)
def wsX8_soFar : List Cond := .code yX8_soFar cX8_soFar 4 (some .int) :: ([.methodLink RX8 140 yX8_ofPerformer, .instanceMethod yX8_ofPerformer, .selects RX8 yX8_ofPerformer yX8_ofPerformer, .initialized RX8, .code yX8_ofPerformer cX8_ofPerformer 3 (some .int), .fieldLink RX8 7 "ApplauseTalliesModel" "state" "[I"] ++ wsX80)
def wsX8_count : List Cond := .code yX8_count cX8_count 2 (some .int) :: ([.fieldLink RX8 7 "ApplauseTalliesModel" "state" "[I", .fieldLink RX8 131 "ApplauseTalliesModel" "length" "I", .fieldLink RX8 36 "ApplauseTalliesModel" "states" "I", .methodLink RX8 32 yX8_within, .static yX8_within, .initialized RX8, .code yX8_within cX8_within 3 (some .boolean), .methodLink RX8 143 yX8_soFar, .instanceMethod yX8_soFar, .selects RX8 yX8_soFar yX8_soFar, .code yX8_soFar cX8_soFar 4 (some .int), .methodLink RX8 140 yX8_ofPerformer, .instanceMethod yX8_ofPerformer, .selects RX8 yX8_ofPerformer yX8_ofPerformer, .code yX8_ofPerformer cX8_ofPerformer 3 (some .int), .methodLink RX8 96 yX8_those, .instanceMethod yX8_those, .selects RX8 yX8_those yX8_those, .code yX8_those cX8_those 6 (some .int), .methodLink RX8 61 yX8_seat, .instanceMethod yX8_seat, .selects RX8 yX8_seat yX8_seat, .code yX8_seat cX8_seat 3 (some .int)] ++ wsX80)
def wsX8_quietIn : List Cond := .code yX8_quietIn cX8_quietIn 4 (some .int) :: ([.fieldLink RX8 7 "ApplauseTalliesModel" "state" "[I", .methodLink RX8 32 yX8_within, .static yX8_within, .initialized RX8, .code yX8_within cX8_within 3 (some .boolean), .methodLink RX8 74 yX8_decayed, .instanceMethod yX8_decayed, .selects RX8 yX8_decayed yX8_decayed, .code yX8_decayed cX8_decayed 3 (some .int)] ++ wsX80)
def wsX8_clapsFor : List Cond := .code yX8_clapsFor cX8_clapsFor 4 (some .int) :: ([.fieldLink RX8 7 "ApplauseTalliesModel" "state" "[I", .methodLink RX8 65 yX8_isSeat, .static yX8_isSeat, .initialized RX8, .code yX8_isSeat cX8_isSeat 1 (some .boolean), .methodLink RX8 32 yX8_within, .static yX8_within, .code yX8_within cX8_within 3 (some .boolean), .methodLink RX8 61 yX8_seat, .instanceMethod yX8_seat, .selects RX8 yX8_seat yX8_seat, .code yX8_seat cX8_seat 3 (some .int)] ++ wsX80)
def wsX8_lapsesIn : List Cond := .code yX8_lapsesIn cX8_lapsesIn 4 (some .int) :: ([.fieldLink RX8 7 "ApplauseTalliesModel" "state" "[I", .methodLink RX8 54 yX8_isPerformer, .static yX8_isPerformer, .initialized RX8, .code yX8_isPerformer cX8_isPerformer 1 (some .boolean), .methodLink RX8 32 yX8_within, .static yX8_within, .code yX8_within cX8_within 3 (some .boolean), .methodLink RX8 87 yX8_earliest, .instanceMethod yX8_earliest, .selects RX8 yX8_earliest yX8_earliest, .code yX8_earliest cX8_earliest 3 (some .int), .methodLink RX8 77 yX8_owedFor, .instanceMethod yX8_owedFor, .selects RX8 yX8_owedFor yX8_owedFor, .code yX8_owedFor cX8_owedFor 2 (some .int)] ++ wsX80)
def wsX8_calls : List Cond := .code yX8_calls cX8_calls 3 (some .int) :: ([.fieldLink RX8 7 "ApplauseTalliesModel" "state" "[I"] ++ wsX80)
def wsX8_ifFound : List Cond := .code yX8_ifFound cX8_ifFound 2 (some .int) :: ([.methodLink RX8 32 yX8_within, .static yX8_within, .initialized RX8, .code yX8_within cX8_within 3 (some .boolean), .methodLink RX8 96 yX8_those, .instanceMethod yX8_those, .selects RX8 yX8_those yX8_those, .code yX8_those cX8_those 6 (some .int), .methodLink RX8 61 yX8_seat, .instanceMethod yX8_seat, .selects RX8 yX8_seat yX8_seat, .code yX8_seat cX8_seat 3 (some .int), .fieldLink RX8 7 "ApplauseTalliesModel" "state" "[I"] ++ wsX80)
def wsX8_isCharacter : List Cond := .code yX8_isCharacter cX8_isCharacter 1 (some .boolean) :: ([.methodLink RX8 32 yX8_within, .static yX8_within, .initialized RX8, .code yX8_within cX8_within 3 (some .boolean)])
def wsX8_charactersIn : List Cond := .code yX8_charactersIn cX8_charactersIn 5 (some .int) :: ([.constantLong RX8 146 (255), .methodLink RX8 148 yX8_isCharacter, .static yX8_isCharacter, .initialized RX8, .code yX8_isCharacter cX8_isCharacter 1 (some .boolean), .methodLink RX8 32 yX8_within, .static yX8_within, .code yX8_within cX8_within 3 (some .boolean)])
def wsX8_put : List Cond := .code yX8_put cX8_put 5 (some .int) :: ([.fieldLink RX8 131 "ApplauseTalliesModel" "length" "I", .constantLong RX8 146 (255), .methodLink RX8 151 yX8_charactersIn, .static yX8_charactersIn, .initialized RX8, .code yX8_charactersIn cX8_charactersIn 5 (some .int), .methodLink RX8 148 yX8_isCharacter, .static yX8_isCharacter, .code yX8_isCharacter cX8_isCharacter 1 (some .boolean), .methodLink RX8 32 yX8_within, .static yX8_within, .code yX8_within cX8_within 3 (some .boolean), .methodLink RX8 134 yX8_writeSign, .instanceMethod yX8_writeSign, .selects RX8 yX8_writeSign yX8_writeSign, .code yX8_writeSign cX8_writeSign 2 none, .fieldLink RX8 25 "ApplauseTalliesModel" "pad" "[I"] ++ wsX80)
def wsX8_wipe : List Cond := .code yX8_wipe cX8_wipe 2 (some .int) :: ([.fieldLink RX8 131 "ApplauseTalliesModel" "length" "I"] ++ wsX80)
def wsX8_code : List Cond := .code yX8_code cX8_code 1 (some .int) :: ([.fieldLink RX8 155 "ApplauseTalliesModel" "at" "I", .fieldLink RX8 131 "ApplauseTalliesModel" "length" "I", .fieldLink RX8 25 "ApplauseTalliesModel" "pad" "[I"] ++ wsX80)
def wsX8_takes : List Cond := .code yX8_takes cX8_takes 3 (some .boolean) :: ([.fieldLink RX8 155 "ApplauseTalliesModel" "at" "I", .methodLink RX8 158 yX8_code, .instanceMethod yX8_code, .selects RX8 yX8_code yX8_code, .initialized RX8, .code yX8_code cX8_code 1 (some .int), .fieldLink RX8 131 "ApplauseTalliesModel" "length" "I", .fieldLink RX8 25 "ApplauseTalliesModel" "pad" "[I"] ++ wsX80)
def wsX8_takeDigit : List Cond := .code yX8_takeDigit cX8_takeDigit 3 (some .int) :: ([.fieldLink RX8 155 "ApplauseTalliesModel" "at" "I", .methodLink RX8 158 yX8_code, .instanceMethod yX8_code, .selects RX8 yX8_code yX8_code, .initialized RX8, .code yX8_code cX8_code 1 (some .int), .fieldLink RX8 131 "ApplauseTalliesModel" "length" "I", .fieldLink RX8 25 "ApplauseTalliesModel" "pad" "[I", .methodLink RX8 32 yX8_within, .static yX8_within, .code yX8_within cX8_within 3 (some .boolean)] ++ wsX80)
def wsX8_readNumber : List Cond := .code yX8_readNumber cX8_readNumber 2 (some .int) :: ([.methodLink RX8 161 yX8_takeDigit, .instanceMethod yX8_takeDigit, .selects RX8 yX8_takeDigit yX8_takeDigit, .initialized RX8, .code yX8_takeDigit cX8_takeDigit 3 (some .int), .fieldLink RX8 155 "ApplauseTalliesModel" "at" "I", .methodLink RX8 158 yX8_code, .instanceMethod yX8_code, .selects RX8 yX8_code yX8_code, .code yX8_code cX8_code 1 (some .int), .fieldLink RX8 131 "ApplauseTalliesModel" "length" "I", .fieldLink RX8 25 "ApplauseTalliesModel" "pad" "[I", .methodLink RX8 32 yX8_within, .static yX8_within, .code yX8_within cX8_within 3 (some .boolean)] ++ wsX80)
def wsX8_readsClaps_r1 : List Cond := [Cond.fieldLink RX8 167 "ApplauseTalliesModel" "first" "I", Cond.fieldLink RX8 173 "ApplauseTalliesModel" "times" "I", Cond.methodLink RX8 164 yX8_readNumber, Cond.instanceMethod yX8_readNumber, Cond.selects RX8 yX8_readNumber yX8_readNumber, Cond.initialized RX8, Cond.code yX8_readNumber cX8_readNumber 2 (some .int), Cond.methodLink RX8 161 yX8_takeDigit, Cond.instanceMethod yX8_takeDigit, Cond.selects RX8 yX8_takeDigit yX8_takeDigit, Cond.code yX8_takeDigit cX8_takeDigit 3 (some .int), Cond.fieldLink RX8 155 "ApplauseTalliesModel" "at" "I", Cond.methodLink RX8 158 yX8_code, Cond.instanceMethod yX8_code, Cond.selects RX8 yX8_code yX8_code, Cond.code yX8_code cX8_code 1 (some .int), Cond.fieldLink RX8 131 "ApplauseTalliesModel" "length" "I", Cond.fieldLink RX8 25 "ApplauseTalliesModel" "pad" "[I", Cond.methodLink RX8 32 yX8_within, Cond.static yX8_within, Cond.code yX8_within cX8_within 3 (some .boolean), Cond.methodLink RX8 170 yX8_takes, Cond.instanceMethod yX8_takes, Cond.selects RX8 yX8_takes yX8_takes]
def wsX8_readsClaps_r2 : List Cond := [Cond.code yX8_takes cX8_takes 3 (some .boolean)]
def wsX8_readsClaps : List Cond := .code yX8_readsClaps cX8_readsClaps 1 (some .boolean) :: ((wsX8_readsClaps_r1 ++ wsX8_readsClaps_r2) ++ wsX80)
def wsX8_readsOrder_r1 : List Cond := [Cond.fieldLink RX8 176 "ApplauseTalliesModel" "sign" "I", Cond.fieldLink RX8 173 "ApplauseTalliesModel" "times" "I", Cond.fieldLink RX8 155 "ApplauseTalliesModel" "at" "I", Cond.fieldLink RX8 167 "ApplauseTalliesModel" "first" "I", Cond.methodLink RX8 158 yX8_code, Cond.instanceMethod yX8_code, Cond.selects RX8 yX8_code yX8_code, Cond.initialized RX8, Cond.code yX8_code cX8_code 1 (some .int), Cond.fieldLink RX8 131 "ApplauseTalliesModel" "length" "I", Cond.fieldLink RX8 25 "ApplauseTalliesModel" "pad" "[I", Cond.methodLink RX8 161 yX8_takeDigit, Cond.instanceMethod yX8_takeDigit, Cond.selects RX8 yX8_takeDigit yX8_takeDigit, Cond.code yX8_takeDigit cX8_takeDigit 3 (some .int), Cond.methodLink RX8 32 yX8_within, Cond.static yX8_within, Cond.code yX8_within cX8_within 3 (some .boolean), Cond.methodLink RX8 164 yX8_readNumber, Cond.instanceMethod yX8_readNumber, Cond.selects RX8 yX8_readNumber yX8_readNumber, Cond.code yX8_readNumber cX8_readNumber 2 (some .int), Cond.methodLink RX8 179 yX8_readsClaps, Cond.instanceMethod yX8_readsClaps]
def wsX8_readsOrder_r2 : List Cond := [Cond.selects RX8 yX8_readsClaps yX8_readsClaps, Cond.code yX8_readsClaps cX8_readsClaps 1 (some .boolean), Cond.methodLink RX8 170 yX8_takes, Cond.instanceMethod yX8_takes, Cond.selects RX8 yX8_takes yX8_takes, Cond.code yX8_takes cX8_takes 3 (some .boolean)]
def wsX8_readsOrder : List Cond := .code yX8_readsOrder cX8_readsOrder 1 (some .boolean) :: ((wsX8_readsOrder_r1 ++ wsX8_readsOrder_r2) ++ wsX80)
def wsX8_findFault_r1 : List Cond := [Cond.fieldLink RX8 155 "ApplauseTalliesModel" "at" "I", Cond.fieldLink RX8 131 "ApplauseTalliesModel" "length" "I", Cond.methodLink RX8 183 yX8_readsOrder, Cond.instanceMethod yX8_readsOrder, Cond.selects RX8 yX8_readsOrder yX8_readsOrder, Cond.initialized RX8, Cond.code yX8_readsOrder cX8_readsOrder 1 (some .boolean), Cond.fieldLink RX8 176 "ApplauseTalliesModel" "sign" "I", Cond.fieldLink RX8 173 "ApplauseTalliesModel" "times" "I", Cond.fieldLink RX8 167 "ApplauseTalliesModel" "first" "I", Cond.methodLink RX8 158 yX8_code, Cond.instanceMethod yX8_code, Cond.selects RX8 yX8_code yX8_code, Cond.code yX8_code cX8_code 1 (some .int), Cond.fieldLink RX8 25 "ApplauseTalliesModel" "pad" "[I", Cond.methodLink RX8 161 yX8_takeDigit, Cond.instanceMethod yX8_takeDigit, Cond.selects RX8 yX8_takeDigit yX8_takeDigit, Cond.code yX8_takeDigit cX8_takeDigit 3 (some .int), Cond.methodLink RX8 32 yX8_within, Cond.static yX8_within, Cond.code yX8_within cX8_within 3 (some .boolean), Cond.methodLink RX8 164 yX8_readNumber, Cond.instanceMethod yX8_readNumber]
def wsX8_findFault_r2 : List Cond := [Cond.selects RX8 yX8_readNumber yX8_readNumber, Cond.code yX8_readNumber cX8_readNumber 2 (some .int), Cond.methodLink RX8 179 yX8_readsClaps, Cond.instanceMethod yX8_readsClaps, Cond.selects RX8 yX8_readsClaps yX8_readsClaps, Cond.code yX8_readsClaps cX8_readsClaps 1 (some .boolean), Cond.methodLink RX8 170 yX8_takes, Cond.instanceMethod yX8_takes, Cond.selects RX8 yX8_takes yX8_takes, Cond.code yX8_takes cX8_takes 3 (some .boolean)]
def wsX8_findFault : List Cond := .code yX8_findFault cX8_findFault 1 (some .int) :: ((wsX8_findFault_r1 ++ wsX8_findFault_r2) ++ wsX80)
def wsX8_fault_r1 : List Cond := [Cond.methodLink RX8 186 yX8_findFault, Cond.instanceMethod yX8_findFault, Cond.selects RX8 yX8_findFault yX8_findFault, Cond.initialized RX8, Cond.code yX8_findFault cX8_findFault 1 (some .int), Cond.fieldLink RX8 155 "ApplauseTalliesModel" "at" "I", Cond.fieldLink RX8 131 "ApplauseTalliesModel" "length" "I", Cond.methodLink RX8 183 yX8_readsOrder, Cond.instanceMethod yX8_readsOrder, Cond.selects RX8 yX8_readsOrder yX8_readsOrder, Cond.code yX8_readsOrder cX8_readsOrder 1 (some .boolean), Cond.fieldLink RX8 176 "ApplauseTalliesModel" "sign" "I", Cond.fieldLink RX8 173 "ApplauseTalliesModel" "times" "I", Cond.fieldLink RX8 167 "ApplauseTalliesModel" "first" "I", Cond.methodLink RX8 158 yX8_code, Cond.instanceMethod yX8_code, Cond.selects RX8 yX8_code yX8_code, Cond.code yX8_code cX8_code 1 (some .int), Cond.fieldLink RX8 25 "ApplauseTalliesModel" "pad" "[I", Cond.methodLink RX8 161 yX8_takeDigit, Cond.instanceMethod yX8_takeDigit, Cond.selects RX8 yX8_takeDigit yX8_takeDigit, Cond.code yX8_takeDigit cX8_takeDigit 3 (some .int), Cond.methodLink RX8 32 yX8_within]
def wsX8_fault_r2 : List Cond := [Cond.static yX8_within, Cond.code yX8_within cX8_within 3 (some .boolean), Cond.methodLink RX8 164 yX8_readNumber, Cond.instanceMethod yX8_readNumber, Cond.selects RX8 yX8_readNumber yX8_readNumber, Cond.code yX8_readNumber cX8_readNumber 2 (some .int), Cond.methodLink RX8 179 yX8_readsClaps, Cond.instanceMethod yX8_readsClaps, Cond.selects RX8 yX8_readsClaps yX8_readsClaps, Cond.code yX8_readsClaps cX8_readsClaps 1 (some .boolean), Cond.methodLink RX8 170 yX8_takes, Cond.instanceMethod yX8_takes, Cond.selects RX8 yX8_takes yX8_takes, Cond.code yX8_takes cX8_takes 3 (some .boolean)]
def wsX8_fault : List Cond := .code yX8_fault cX8_fault 1 (some .int) :: ((wsX8_fault_r1 ++ wsX8_fault_r2) ++ wsX80)
def wsX8_doesOrder_r1 : List Cond := [Cond.fieldLink RX8 176 "ApplauseTalliesModel" "sign" "I", Cond.fieldLink RX8 167 "ApplauseTalliesModel" "first" "I", Cond.methodLink RX8 112 yX8_doEnds, Cond.instanceMethod yX8_doEnds, Cond.selects RX8 yX8_doEnds yX8_doEnds, Cond.initialized RX8, Cond.code yX8_doEnds cX8_doEnds 2 (some .int), Cond.methodLink RX8 54 yX8_isPerformer, Cond.static yX8_isPerformer, Cond.code yX8_isPerformer cX8_isPerformer 1 (some .boolean), Cond.methodLink RX8 32 yX8_within, Cond.static yX8_within, Cond.code yX8_within cX8_within 3 (some .boolean), Cond.methodLink RX8 57 yX8_end, Cond.instanceMethod yX8_end, Cond.selects RX8 yX8_end yX8_end, Cond.code yX8_end cX8_end 4 (some .int), Cond.fieldLink RX8 7 "ApplauseTalliesModel" "state" "[I", Cond.methodLink RX8 28 yX8_setSeat, Cond.instanceMethod yX8_setSeat, Cond.selects RX8 yX8_setSeat yX8_setSeat, Cond.code yX8_setSeat cX8_setSeat 4 none, Cond.methodLink RX8 115 yX8_doClap, Cond.instanceMethod yX8_doClap]
def wsX8_doesOrder_r2 : List Cond := [Cond.selects RX8 yX8_doClap yX8_doClap, Cond.code yX8_doClap cX8_doClap 3 (some .int), Cond.methodLink RX8 65 yX8_isSeat, Cond.static yX8_isSeat, Cond.code yX8_isSeat cX8_isSeat 1 (some .boolean), Cond.methodLink RX8 61 yX8_seat, Cond.instanceMethod yX8_seat, Cond.selects RX8 yX8_seat yX8_seat, Cond.code yX8_seat cX8_seat 3 (some .int), Cond.methodLink RX8 68 yX8_countClap, Cond.instanceMethod yX8_countClap, Cond.selects RX8 yX8_countClap yX8_countClap, Cond.code yX8_countClap cX8_countClap 2 none, Cond.methodLink RX8 71 yX8_owe, Cond.instanceMethod yX8_owe, Cond.selects RX8 yX8_owe yX8_owe, Cond.code yX8_owe cX8_owe 2 none, Cond.methodLink RX8 50 yX8_countLapse, Cond.instanceMethod yX8_countLapse, Cond.selects RX8 yX8_countLapse yX8_countLapse, Cond.code yX8_countLapse cX8_countLapse 2 none, Cond.methodLink RX8 118 yX8_doPass, Cond.instanceMethod yX8_doPass, Cond.selects RX8 yX8_doPass yX8_doPass]
def wsX8_doesOrder_r3 : List Cond := [Cond.code yX8_doPass cX8_doPass 3 (some .int), Cond.constant RX8 83 (99999), Cond.methodLink RX8 84 yX8_passSecond, Cond.instanceMethod yX8_passSecond, Cond.selects RX8 yX8_passSecond yX8_passSecond, Cond.code yX8_passSecond cX8_passSecond 2 none, Cond.methodLink RX8 74 yX8_decayed, Cond.instanceMethod yX8_decayed, Cond.selects RX8 yX8_decayed yX8_decayed, Cond.code yX8_decayed cX8_decayed 3 (some .int), Cond.methodLink RX8 77 yX8_owedFor, Cond.instanceMethod yX8_owedFor, Cond.selects RX8 yX8_owedFor yX8_owedFor, Cond.code yX8_owedFor cX8_owedFor 2 (some .int), Cond.methodLink RX8 80 yX8_drop, Cond.instanceMethod yX8_drop, Cond.selects RX8 yX8_drop yX8_drop, Cond.code yX8_drop cX8_drop 3 none, Cond.methodLink RX8 121 yX8_doPlay, Cond.instanceMethod yX8_doPlay, Cond.selects RX8 yX8_doPlay yX8_doPlay, Cond.code yX8_doPlay cX8_doPlay 4 (some .int), Cond.methodLink RX8 87 yX8_earliest, Cond.instanceMethod yX8_earliest]
def wsX8_doesOrder_r4 : List Cond := [Cond.selects RX8 yX8_earliest yX8_earliest, Cond.code yX8_earliest cX8_earliest 3 (some .int), Cond.methodLink RX8 90 yX8_owes, Cond.instanceMethod yX8_owes, Cond.selects RX8 yX8_owes yX8_owes, Cond.code yX8_owes cX8_owes 4 (some .int), Cond.methodLink RX8 124 yX8_doCall, Cond.instanceMethod yX8_doCall, Cond.selects RX8 yX8_doCall yX8_doCall, Cond.code yX8_doCall cX8_doCall 1 (some .int), Cond.methodLink RX8 128 yX8_doNight, Cond.instanceMethod yX8_doNight, Cond.selects RX8 yX8_doNight yX8_doNight, Cond.code yX8_doNight cX8_doNight 3 (some .int), Cond.methodLink RX8 93 yX8_keepRecord, Cond.instanceMethod yX8_keepRecord, Cond.selects RX8 yX8_keepRecord yX8_keepRecord, Cond.code yX8_keepRecord cX8_keepRecord 2 none, Cond.methodLink RX8 109 yX8_doPay, Cond.instanceMethod yX8_doPay, Cond.selects RX8 yX8_doPay yX8_doPay, Cond.code yX8_doPay cX8_doPay 2 (some .int), Cond.methodLink RX8 96 yX8_those, Cond.instanceMethod yX8_those]
def wsX8_doesOrder_r5 : List Cond := [Cond.selects RX8 yX8_those yX8_those, Cond.code yX8_those cX8_those 6 (some .int)]
def wsX8_doesOrder : List Cond := .code yX8_doesOrder cX8_doesOrder 1 (some .int) :: ((wsX8_doesOrder_r1 ++ (wsX8_doesOrder_r2 ++ (wsX8_doesOrder_r3 ++ (wsX8_doesOrder_r4 ++ wsX8_doesOrder_r5)))) ++ wsX80)
def wsX8_carryOut_r1 : List Cond := [Cond.fieldLink RX8 155 "ApplauseTalliesModel" "at" "I", Cond.fieldLink RX8 131 "ApplauseTalliesModel" "length" "I", Cond.fieldLink RX8 173 "ApplauseTalliesModel" "times" "I", Cond.methodLink RX8 186 yX8_findFault, Cond.instanceMethod yX8_findFault, Cond.selects RX8 yX8_findFault yX8_findFault, Cond.initialized RX8, Cond.code yX8_findFault cX8_findFault 1 (some .int), Cond.methodLink RX8 183 yX8_readsOrder, Cond.instanceMethod yX8_readsOrder, Cond.selects RX8 yX8_readsOrder yX8_readsOrder, Cond.code yX8_readsOrder cX8_readsOrder 1 (some .boolean), Cond.fieldLink RX8 176 "ApplauseTalliesModel" "sign" "I", Cond.fieldLink RX8 167 "ApplauseTalliesModel" "first" "I", Cond.methodLink RX8 158 yX8_code, Cond.instanceMethod yX8_code, Cond.selects RX8 yX8_code yX8_code, Cond.code yX8_code cX8_code 1 (some .int), Cond.fieldLink RX8 25 "ApplauseTalliesModel" "pad" "[I", Cond.methodLink RX8 161 yX8_takeDigit, Cond.instanceMethod yX8_takeDigit, Cond.selects RX8 yX8_takeDigit yX8_takeDigit, Cond.code yX8_takeDigit cX8_takeDigit 3 (some .int), Cond.methodLink RX8 32 yX8_within]
def wsX8_carryOut_r2 : List Cond := [Cond.static yX8_within, Cond.code yX8_within cX8_within 3 (some .boolean), Cond.methodLink RX8 164 yX8_readNumber, Cond.instanceMethod yX8_readNumber, Cond.selects RX8 yX8_readNumber yX8_readNumber, Cond.code yX8_readNumber cX8_readNumber 2 (some .int), Cond.methodLink RX8 179 yX8_readsClaps, Cond.instanceMethod yX8_readsClaps, Cond.selects RX8 yX8_readsClaps yX8_readsClaps, Cond.code yX8_readsClaps cX8_readsClaps 1 (some .boolean), Cond.methodLink RX8 170 yX8_takes, Cond.instanceMethod yX8_takes, Cond.selects RX8 yX8_takes yX8_takes, Cond.code yX8_takes cX8_takes 3 (some .boolean), Cond.methodLink RX8 47 yX8_putAside, Cond.instanceMethod yX8_putAside, Cond.selects RX8 yX8_putAside yX8_putAside, Cond.code yX8_putAside cX8_putAside 2 none, Cond.fieldLink RX8 13 "ApplauseTalliesModel" "spare" "[I", Cond.fieldLink RX8 7 "ApplauseTalliesModel" "state" "[I", Cond.methodLink RX8 40 yX8_push, Cond.instanceMethod yX8_push, Cond.selects RX8 yX8_push yX8_push, Cond.code yX8_push cX8_push 2 none]
def wsX8_carryOut_r3 : List Cond := [Cond.fieldLink RX8 36 "ApplauseTalliesModel" "states" "I", Cond.fieldLink RX8 16 "ApplauseTalliesModel" "history" "[I", Cond.methodLink RX8 189 yX8_doesOrder, Cond.instanceMethod yX8_doesOrder, Cond.selects RX8 yX8_doesOrder yX8_doesOrder, Cond.code yX8_doesOrder cX8_doesOrder 1 (some .int), Cond.methodLink RX8 112 yX8_doEnds, Cond.instanceMethod yX8_doEnds, Cond.selects RX8 yX8_doEnds yX8_doEnds, Cond.code yX8_doEnds cX8_doEnds 2 (some .int), Cond.methodLink RX8 54 yX8_isPerformer, Cond.static yX8_isPerformer, Cond.code yX8_isPerformer cX8_isPerformer 1 (some .boolean), Cond.methodLink RX8 57 yX8_end, Cond.instanceMethod yX8_end, Cond.selects RX8 yX8_end yX8_end, Cond.code yX8_end cX8_end 4 (some .int), Cond.methodLink RX8 28 yX8_setSeat, Cond.instanceMethod yX8_setSeat, Cond.selects RX8 yX8_setSeat yX8_setSeat, Cond.code yX8_setSeat cX8_setSeat 4 none, Cond.methodLink RX8 115 yX8_doClap, Cond.instanceMethod yX8_doClap, Cond.selects RX8 yX8_doClap yX8_doClap]
def wsX8_carryOut_r4 : List Cond := [Cond.code yX8_doClap cX8_doClap 3 (some .int), Cond.methodLink RX8 65 yX8_isSeat, Cond.static yX8_isSeat, Cond.code yX8_isSeat cX8_isSeat 1 (some .boolean), Cond.methodLink RX8 61 yX8_seat, Cond.instanceMethod yX8_seat, Cond.selects RX8 yX8_seat yX8_seat, Cond.code yX8_seat cX8_seat 3 (some .int), Cond.methodLink RX8 68 yX8_countClap, Cond.instanceMethod yX8_countClap, Cond.selects RX8 yX8_countClap yX8_countClap, Cond.code yX8_countClap cX8_countClap 2 none, Cond.methodLink RX8 71 yX8_owe, Cond.instanceMethod yX8_owe, Cond.selects RX8 yX8_owe yX8_owe, Cond.code yX8_owe cX8_owe 2 none, Cond.methodLink RX8 50 yX8_countLapse, Cond.instanceMethod yX8_countLapse, Cond.selects RX8 yX8_countLapse yX8_countLapse, Cond.code yX8_countLapse cX8_countLapse 2 none, Cond.methodLink RX8 118 yX8_doPass, Cond.instanceMethod yX8_doPass, Cond.selects RX8 yX8_doPass yX8_doPass, Cond.code yX8_doPass cX8_doPass 3 (some .int)]
def wsX8_carryOut_r5 : List Cond := [Cond.constant RX8 83 (99999), Cond.methodLink RX8 84 yX8_passSecond, Cond.instanceMethod yX8_passSecond, Cond.selects RX8 yX8_passSecond yX8_passSecond, Cond.code yX8_passSecond cX8_passSecond 2 none, Cond.methodLink RX8 74 yX8_decayed, Cond.instanceMethod yX8_decayed, Cond.selects RX8 yX8_decayed yX8_decayed, Cond.code yX8_decayed cX8_decayed 3 (some .int), Cond.methodLink RX8 77 yX8_owedFor, Cond.instanceMethod yX8_owedFor, Cond.selects RX8 yX8_owedFor yX8_owedFor, Cond.code yX8_owedFor cX8_owedFor 2 (some .int), Cond.methodLink RX8 80 yX8_drop, Cond.instanceMethod yX8_drop, Cond.selects RX8 yX8_drop yX8_drop, Cond.code yX8_drop cX8_drop 3 none, Cond.methodLink RX8 121 yX8_doPlay, Cond.instanceMethod yX8_doPlay, Cond.selects RX8 yX8_doPlay yX8_doPlay, Cond.code yX8_doPlay cX8_doPlay 4 (some .int), Cond.methodLink RX8 87 yX8_earliest, Cond.instanceMethod yX8_earliest, Cond.selects RX8 yX8_earliest yX8_earliest]
def wsX8_carryOut_r6 : List Cond := [Cond.code yX8_earliest cX8_earliest 3 (some .int), Cond.methodLink RX8 90 yX8_owes, Cond.instanceMethod yX8_owes, Cond.selects RX8 yX8_owes yX8_owes, Cond.code yX8_owes cX8_owes 4 (some .int), Cond.methodLink RX8 124 yX8_doCall, Cond.instanceMethod yX8_doCall, Cond.selects RX8 yX8_doCall yX8_doCall, Cond.code yX8_doCall cX8_doCall 1 (some .int), Cond.methodLink RX8 128 yX8_doNight, Cond.instanceMethod yX8_doNight, Cond.selects RX8 yX8_doNight yX8_doNight, Cond.code yX8_doNight cX8_doNight 3 (some .int), Cond.methodLink RX8 93 yX8_keepRecord, Cond.instanceMethod yX8_keepRecord, Cond.selects RX8 yX8_keepRecord yX8_keepRecord, Cond.code yX8_keepRecord cX8_keepRecord 2 none, Cond.methodLink RX8 109 yX8_doPay, Cond.instanceMethod yX8_doPay, Cond.selects RX8 yX8_doPay yX8_doPay, Cond.code yX8_doPay cX8_doPay 2 (some .int), Cond.methodLink RX8 96 yX8_those, Cond.instanceMethod yX8_those, Cond.selects RX8 yX8_those yX8_those]
def wsX8_carryOut_r7 : List Cond := [Cond.code yX8_those cX8_those 6 (some .int)]
def wsX8_carryOut : List Cond := .code yX8_carryOut cX8_carryOut 4 (some .int) :: ((wsX8_carryOut_r1 ++ (wsX8_carryOut_r2 ++ (wsX8_carryOut_r3 ++ (wsX8_carryOut_r4 ++ (wsX8_carryOut_r5 ++ (wsX8_carryOut_r6 ++ wsX8_carryOut_r7)))))) ++ wsX80)
def wsJ9_max_7cf53 : List Cond := .code yJ9_max_7cf53 cJ9_max_7cf53 2 (some .int) :: ([])
def wsJ9_min_7cf53 : List Cond := .code yJ9_min_7cf53 cJ9_min_7cf53 2 (some .int) :: ([])
def wsL_law_r1 : List Cond := [Cond.classLink RL 7 RX7, Cond.instantiable RX7 5, Cond.initialized RX7, Cond.classLink RL 10 RX8, Cond.instantiable RX8 12, Cond.initialized RX8, Cond.constantLong RL 104 (4294967295), Cond.methodLink RL 9 yX7_init, Cond.instanceMethod yX7_init, Cond.code yX7_init cX7_init 1 none, Cond.methodLink RX7 1 objectInit, Cond.instanceMethod objectInit, Cond.code objectInit ⟨#[0xb1]⟩ 1 none, Cond.classLink RX7 7 RX2, Cond.instantiable RX2 11, Cond.initialized RX2, Cond.fieldLink RX7 10 "ApplauseTallies" "house" "LApplauseTallies$House;", Cond.classLink RX7 16 RX1, Cond.instantiable RX1 3, Cond.initialized RX1, Cond.fieldLink RX7 19 "ApplauseTallies" "history" "LApplauseTallies$History;", Cond.fieldLink RX7 23 "ApplauseTallies" "slots" "[LApplauseTallies$House;", Cond.classLink RX7 27 RX4, Cond.instantiable RX4 2]
def wsL_law_r2 : List Cond := [Cond.initialized RX4, Cond.fieldLink RX7 30 "ApplauseTallies" "pad" "LApplauseTallies$Pad;", Cond.classLink RX7 34 RX3, Cond.instantiable RX3 5, Cond.initialized RX3, Cond.fieldLink RX7 39 "ApplauseTallies" "reader" "LApplauseTallies$OrderReader;", Cond.methodLink RX7 9 yX2_init, Cond.instanceMethod yX2_init, Cond.code yX2_init cX2_init 2 none, Cond.methodLink RX2 3 objectInit, Cond.classLink RX2 9 RX5, Cond.instantiable RX5 1, Cond.initialized RX5, Cond.fieldLink RX2 14 "ApplauseTallies$House" "settings" "LApplauseTallies$Row;", Cond.classLink RX2 20 RX6, Cond.instantiable RX6 8, Cond.initialized RX6, Cond.fieldLink RX2 23 "ApplauseTallies$House" "seats" "LApplauseTallies$Seats;", Cond.classLink RX2 27 RX0, Cond.instantiable RX0 6, Cond.initialized RX0, Cond.fieldLink RX2 30 "ApplauseTallies$House" "encores" "LApplauseTallies$Encores;", Cond.fieldLink RX2 34 "ApplauseTallies$House" "tonight" "LApplauseTallies$Row;", Cond.fieldLink RX2 37 "ApplauseTallies$House" "records" "LApplauseTallies$Row;"]
def wsL_law_r3 : List Cond := [Cond.fieldLink RX2 40 "ApplauseTallies$House" "pieceBy" "I", Cond.methodLink RX2 11 yX5_init, Cond.instanceMethod yX5_init, Cond.code yX5_init cX5_init 2 none, Cond.methodLink RX5 1 objectInit, Cond.methodLink RX5 7 Lib.Math.max.name, Cond.static Lib.Math.max.name, Cond.initialized "java/lang/Math", Cond.code Lib.Math.max.name Lib.Math.max.code 2 (some .int), Cond.arrayClass .int, Cond.fieldLink RX5 13 "ApplauseTallies$Row" "cells" "[I", Cond.methodLink RX2 22 yX6_init, Cond.instanceMethod yX6_init, Cond.code yX6_init cX6_init 1 none, Cond.methodLink RX6 3 objectInit, Cond.classLink RX6 9 RX5, Cond.fieldLink RX6 14 "ApplauseTallies$Seats" "loudness" "LApplauseTallies$Row;", Cond.fieldLink RX6 20 "ApplauseTallies$Seats" "early" "LApplauseTallies$Row;", Cond.fieldLink RX6 23 "ApplauseTallies$Seats" "clapsTonight" "LApplauseTallies$Row;", Cond.fieldLink RX6 26 "ApplauseTallies$Seats" "clapsSoFar" "LApplauseTallies$Row;", Cond.fieldLink RX6 29 "ApplauseTallies$Seats" "clappers" "LApplauseTallies$Row;", Cond.methodLink RX6 11 yX5_init, Cond.methodLink RX6 32 yX5_fill, Cond.instanceMethod yX5_fill]
def wsL_law_r4 : List Cond := [Cond.selects RX5 yX5_fill yX5_fill, Cond.code yX5_fill cX5_fill 3 none, Cond.instanceMethod yX0_init, Cond.code yX0_init cX0_init 1 none, Cond.methodLink RX0 3 objectInit, Cond.classLink RX0 9 RX5, Cond.fieldLink RX0 14 "ApplauseTallies$Encores" "owers" "LApplauseTallies$Row;", Cond.fieldLink RX0 20 "ApplauseTallies$Encores" "since" "LApplauseTallies$Row;", Cond.fieldLink RX0 23 "ApplauseTallies$Encores" "played" "LApplauseTallies$Row;", Cond.fieldLink RX0 26 "ApplauseTallies$Encores" "lapsed" "LApplauseTallies$Row;", Cond.fieldLink RX0 29 "ApplauseTallies$Encores" "pieces" "LApplauseTallies$Row;", Cond.methodLink RX0 11 yX5_init, Cond.methodLink RX2 48 yX5_store, Cond.instanceMethod yX5_store, Cond.selects RX5 yX5_store yX5_store, Cond.code yX5_store cX5_store 3 none, Cond.methodLink RX7 18 yX1_init, Cond.instanceMethod yX1_init, Cond.code yX1_init cX1_init 2 none, Cond.methodLink RX1 3 objectInit, Cond.classLink RX1 11 RX2, Cond.fieldLink RX1 13 "ApplauseTallies$History" "states" "[LApplauseTallies$House;", Cond.methodLink RX1 17 yX2_init, Cond.instanceMethod yX4_init]
def wsL_law_r5 : List Cond := [Cond.code yX4_init cX4_init 1 none, Cond.methodLink RX4 3 objectInit, Cond.fieldLink RX4 9 "ApplauseTallies$Pad" "codes" "[I", Cond.methodLink RX7 36 yX3_init, Cond.instanceMethod yX3_init, Cond.code yX3_init cX3_init 2 none, Cond.methodLink RX3 3 objectInit, Cond.fieldLink RX3 9 "ApplauseTallies$OrderReader" "pad" "LApplauseTallies$Pad;", Cond.methodLink RL 12 yX8_init, Cond.instanceMethod yX8_init, Cond.code yX8_init cX8_init 2 none, Cond.methodLink RX8 1 objectInit, Cond.fieldLink RX8 7 "ApplauseTalliesModel" "state" "[I", Cond.fieldLink RX8 13 "ApplauseTalliesModel" "spare" "[I", Cond.fieldLink RX8 16 "ApplauseTalliesModel" "history" "[I", Cond.fieldLink RX8 19 "ApplauseTalliesModel" "slots" "[I", Cond.fieldLink RX8 22 "ApplauseTalliesModel" "isSaved" "[I", Cond.fieldLink RX8 25 "ApplauseTalliesModel" "pad" "[I", Cond.methodLink RX8 28 yX8_setSeat, Cond.instanceMethod yX8_setSeat, Cond.selects RX8 yX8_setSeat yX8_setSeat, Cond.code yX8_setSeat cX8_setSeat 4 none, Cond.methodLink RL 13 yX7_set, Cond.instanceMethod yX7_set]
def wsL_law_r6 : List Cond := [Cond.selects RX7 yX7_set yX7_set, Cond.code yX7_set cX7_set 3 (some .int), Cond.methodLink RX7 43 yX1_setAside, Cond.instanceMethod yX1_setAside, Cond.selects RX1 yX1_setAside yX1_setAside, Cond.code yX1_setAside cX1_setAside 3 none, Cond.fieldLink RX1 22 "ApplauseTallies$History" "next" "I", Cond.methodLink RX1 25 yX1_stateAt, Cond.instanceMethod yX1_stateAt, Cond.selects RX1 yX1_stateAt yX1_stateAt, Cond.code yX1_stateAt cX1_stateAt 2 (some (.object "ApplauseTallies$House")), Cond.methodLink RX1 29 yX2_copyFrom, Cond.instanceMethod yX2_copyFrom, Cond.selects RX2 yX2_copyFrom yX2_copyFrom, Cond.code yX2_copyFrom cX2_copyFrom 2 none, Cond.fieldLink RX2 62 "ApplauseTallies$House" "applause" "I", Cond.fieldLink RX2 65 "ApplauseTallies$House" "time" "I", Cond.fieldLink RX2 68 "ApplauseTallies$House" "nights" "I", Cond.fieldLink RX2 71 "ApplauseTallies$House" "pieceEnd" "I", Cond.fieldLink RX2 74 "ApplauseTallies$House" "encoreCame" "Z", Cond.methodLink RX2 52 yX5_copyFrom, Cond.instanceMethod yX5_copyFrom, Cond.selects RX5 yX5_copyFrom yX5_copyFrom, Cond.code yX5_copyFrom cX5_copyFrom 2 none]
def wsL_law_r7 : List Cond := [Cond.methodLink RX5 19 Lib.Math.min.name, Cond.static Lib.Math.min.name, Cond.code Lib.Math.min.name Lib.Math.min.code 2 (some .int), Cond.methodLink RX5 22 arraycopyName, Cond.native arraycopyName, Cond.static arraycopyName, Cond.initialized "java/lang/System", Cond.methodLink RX2 56 yX6_copyFrom, Cond.instanceMethod yX6_copyFrom, Cond.selects RX6 yX6_copyFrom yX6_copyFrom, Cond.code yX6_copyFrom cX6_copyFrom 2 none, Cond.fieldLink RX6 39 "ApplauseTallies$Seats" "clapperCount" "I", Cond.fieldLink RX6 43 "ApplauseTallies$Seats" "paid" "I", Cond.fieldLink RX6 46 "ApplauseTallies$Seats" "clappedForPiece" "I", Cond.methodLink RX6 35 yX5_copyFrom, Cond.methodLink RX2 59 yX0_copyFrom, Cond.instanceMethod yX0_copyFrom, Cond.selects RX0 yX0_copyFrom yX0_copyFrom, Cond.code yX0_copyFrom cX0_copyFrom 2 none, Cond.fieldLink RX0 36 "ApplauseTallies$Encores" "owedCount" "I", Cond.methodLink RX0 32 yX5_copyFrom, Cond.methodLink RX7 47 yX2_changeSetting, Cond.instanceMethod yX2_changeSetting, Cond.selects RX2 yX2_changeSetting yX2_changeSetting]
def wsL_law_r8 : List Cond := [Cond.code yX2_changeSetting cX2_changeSetting 4 (some .int), Cond.methodLink RX2 84 yX5_at, Cond.instanceMethod yX5_at, Cond.selects RX5 yX5_at yX5_at, Cond.code yX5_at cX5_at 2 (some .int), Cond.methodLink RX7 51 yX1_keepUnlessError, Cond.instanceMethod yX1_keepUnlessError, Cond.selects RX1 yX1_keepUnlessError yX1_keepUnlessError, Cond.code yX1_keepUnlessError cX1_keepUnlessError 2 (some .int), Cond.fieldLink RX1 18 "ApplauseTallies$History" "kept" "I", Cond.methodLink RX1 33 Lib.Math.min.name, Cond.methodLink RL 17 yX8_set, Cond.instanceMethod yX8_set, Cond.selects RX8 yX8_set yX8_set, Cond.code yX8_set cX8_set 4 (some .int), Cond.methodLink RX8 32 yX8_within, Cond.static yX8_within, Cond.code yX8_within cX8_within 3 (some .boolean), Cond.methodLink RX8 100 yX8_leastOf, Cond.static yX8_leastOf, Cond.code yX8_leastOf cX8_leastOf 1 (some .int), Cond.methodLink RX8 103 yX8_mostOf, Cond.static yX8_mostOf, Cond.code yX8_mostOf cX8_mostOf 1 (some .int)]
def wsL_law_r9 : List Cond := [Cond.methodLink RX8 47 yX8_putAside, Cond.instanceMethod yX8_putAside, Cond.selects RX8 yX8_putAside yX8_putAside, Cond.code yX8_putAside cX8_putAside 2 none, Cond.methodLink RX8 106 yX8_recorded, Cond.instanceMethod yX8_recorded, Cond.selects RX8 yX8_recorded yX8_recorded, Cond.code yX8_recorded cX8_recorded 2 (some .int), Cond.methodLink RX8 40 yX8_push, Cond.instanceMethod yX8_push, Cond.selects RX8 yX8_push yX8_push, Cond.code yX8_push cX8_push 2 none, Cond.fieldLink RX8 36 "ApplauseTalliesModel" "states" "I", Cond.methodLink RL 18 yX7_loud, Cond.instanceMethod yX7_loud, Cond.selects RX7 yX7_loud yX7_loud, Cond.code yX7_loud cX7_loud 3 (some .int), Cond.methodLink RX7 55 yX2_changeLoudness, Cond.instanceMethod yX2_changeLoudness, Cond.selects RX2 yX2_changeLoudness yX2_changeLoudness, Cond.code yX2_changeLoudness cX2_changeLoudness 4 (some .int), Cond.static yX7_isSeat, Cond.code yX7_isSeat cX7_isSeat 1 (some .boolean), Cond.methodLink RL 21 yX8_loud]
def wsL_law_r10 : List Cond := [Cond.instanceMethod yX8_loud, Cond.selects RX8 yX8_loud yX8_loud, Cond.code yX8_loud cX8_loud 4 (some .int), Cond.methodLink RX8 65 yX8_isSeat, Cond.static yX8_isSeat, Cond.code yX8_isSeat cX8_isSeat 1 (some .boolean), Cond.methodLink RX8 61 yX8_seat, Cond.instanceMethod yX8_seat, Cond.selects RX8 yX8_seat yX8_seat, Cond.code yX8_seat cX8_seat 3 (some .int), Cond.methodLink RL 22 yX7_pay, Cond.instanceMethod yX7_pay, Cond.selects RX7 yX7_pay yX7_pay, Cond.code yX7_pay cX7_pay 2 (some .int), Cond.methodLink RX7 58 yX2_switchPay, Cond.instanceMethod yX2_switchPay, Cond.selects RX2 yX2_switchPay yX2_switchPay, Cond.code yX2_switchPay cX2_switchPay 2 (some .int), Cond.methodLink RL 26 yX8_pay, Cond.instanceMethod yX8_pay, Cond.selects RX8 yX8_pay yX8_pay, Cond.code yX8_pay cX8_pay 2 (some .int), Cond.methodLink RX8 109 yX8_doPay, Cond.instanceMethod yX8_doPay]
def wsL_law_r11 : List Cond := [Cond.selects RX8 yX8_doPay yX8_doPay, Cond.code yX8_doPay cX8_doPay 2 (some .int), Cond.methodLink RX8 96 yX8_those, Cond.instanceMethod yX8_those, Cond.selects RX8 yX8_those yX8_those, Cond.code yX8_those cX8_those 6 (some .int), Cond.methodLink RL 27 yX7_ends, Cond.instanceMethod yX7_ends, Cond.selects RX7 yX7_ends yX7_ends, Cond.code yX7_ends cX7_ends 2 (some .int), Cond.methodLink RX7 61 yX2_endPiece, Cond.instanceMethod yX2_endPiece, Cond.selects RX2 yX2_endPiece yX2_endPiece, Cond.code yX2_endPiece cX2_endPiece 3 (some .int), Cond.static yX7_isPerformer, Cond.code yX7_isPerformer cX7_isPerformer 1 (some .boolean), Cond.methodLink RX2 101 yX2_beginApplause, Cond.instanceMethod yX2_beginApplause, Cond.selects RX2 yX2_beginApplause yX2_beginApplause, Cond.code yX2_beginApplause cX2_beginApplause 2 none, Cond.methodLink RX2 107 yX5_add, Cond.instanceMethod yX5_add, Cond.selects RX5 yX5_add yX5_add, Cond.code yX5_add cX5_add 3 none]
def wsL_law_r12 : List Cond := [Cond.methodLink RX2 110 yX6_beginPiece, Cond.instanceMethod yX6_beginPiece, Cond.selects RX6 yX6_beginPiece yX6_beginPiece, Cond.code yX6_beginPiece cX6_beginPiece 1 none, Cond.methodLink RL 30 yX8_ends, Cond.instanceMethod yX8_ends, Cond.selects RX8 yX8_ends yX8_ends, Cond.code yX8_ends cX8_ends 2 (some .int), Cond.methodLink RX8 112 yX8_doEnds, Cond.instanceMethod yX8_doEnds, Cond.selects RX8 yX8_doEnds yX8_doEnds, Cond.code yX8_doEnds cX8_doEnds 2 (some .int), Cond.methodLink RX8 54 yX8_isPerformer, Cond.static yX8_isPerformer, Cond.code yX8_isPerformer cX8_isPerformer 1 (some .boolean), Cond.methodLink RX8 57 yX8_end, Cond.instanceMethod yX8_end, Cond.selects RX8 yX8_end yX8_end, Cond.code yX8_end cX8_end 4 (some .int), Cond.methodLink RL 31 yX7_clap, Cond.instanceMethod yX7_clap, Cond.selects RX7 yX7_clap yX7_clap, Cond.code yX7_clap cX7_clap 2 (some .int), Cond.methodLink RX7 64 yX2_takeClap]
def wsL_law_r13 : List Cond := [Cond.instanceMethod yX2_takeClap, Cond.selects RX2 yX2_takeClap yX2_takeClap, Cond.code yX2_takeClap cX2_takeClap 2 (some .int), Cond.methodLink RX2 117 Lib.Math.min.name, Cond.methodLink RX2 113 yX6_addClap, Cond.instanceMethod yX6_addClap, Cond.selects RX6 yX6_addClap yX6_addClap, Cond.code yX6_addClap cX6_addClap 3 none, Cond.methodLink RX6 49 yX6_hasClapped, Cond.instanceMethod yX6_hasClapped, Cond.selects RX6 yX6_hasClapped yX6_hasClapped, Cond.code yX6_hasClapped cX6_hasClapped 2 (some .boolean), Cond.methodLink RX6 53 yX5_add, Cond.methodLink RX6 57 yX5_at, Cond.methodLink RX6 61 yX5_store, Cond.methodLink RX2 123 yX2_bringEncore, Cond.instanceMethod yX2_bringEncore, Cond.selects RX2 yX2_bringEncore yX2_bringEncore, Cond.code yX2_bringEncore cX2_bringEncore 1 none, Cond.methodLink RX2 126 yX0_owe, Cond.instanceMethod yX0_owe, Cond.selects RX0 yX0_owe yX0_owe, Cond.code yX0_owe cX0_owe 3 (some .boolean), Cond.methodLink RX0 40 yX5_add]
def wsL_law_r14 : List Cond := [Cond.methodLink RX0 44 yX5_store, Cond.methodLink RL 34 yX8_clap, Cond.instanceMethod yX8_clap, Cond.selects RX8 yX8_clap yX8_clap, Cond.code yX8_clap cX8_clap 2 (some .int), Cond.methodLink RX8 115 yX8_doClap, Cond.instanceMethod yX8_doClap, Cond.selects RX8 yX8_doClap yX8_doClap, Cond.code yX8_doClap cX8_doClap 3 (some .int), Cond.methodLink RX8 68 yX8_countClap, Cond.instanceMethod yX8_countClap, Cond.selects RX8 yX8_countClap yX8_countClap, Cond.code yX8_countClap cX8_countClap 2 none, Cond.methodLink RX8 71 yX8_owe, Cond.instanceMethod yX8_owe, Cond.selects RX8 yX8_owe yX8_owe, Cond.code yX8_owe cX8_owe 2 none, Cond.methodLink RX8 50 yX8_countLapse, Cond.instanceMethod yX8_countLapse, Cond.selects RX8 yX8_countLapse yX8_countLapse, Cond.code yX8_countLapse cX8_countLapse 2 none, Cond.methodLink RL 35 yX7_pass, Cond.instanceMethod yX7_pass, Cond.selects RX7 yX7_pass yX7_pass]
def wsL_law_r15 : List Cond := [Cond.code yX7_pass cX7_pass 2 (some .int), Cond.methodLink RX7 67 yX2_letPass, Cond.instanceMethod yX2_letPass, Cond.selects RX2 yX2_letPass yX2_letPass, Cond.code yX2_letPass cX2_letPass 3 (some .int), Cond.constant RX2 130 (99999), Cond.static yX7_afterSecond, Cond.code yX7_afterSecond cX7_afterSecond 2 (some .int), Cond.methodLink RX7 176 Lib.Math.max.name, Cond.methodLink RX2 134 yX0_lapseSince, Cond.instanceMethod yX0_lapseSince, Cond.selects RX0 yX0_lapseSince yX0_lapseSince, Cond.code yX0_lapseSince cX0_lapseSince 4 (some .int), Cond.methodLink RX0 47 yX5_at, Cond.methodLink RL 38 yX8_pass, Cond.instanceMethod yX8_pass, Cond.selects RX8 yX8_pass yX8_pass, Cond.code yX8_pass cX8_pass 2 (some .int), Cond.methodLink RX8 118 yX8_doPass, Cond.instanceMethod yX8_doPass, Cond.selects RX8 yX8_doPass yX8_doPass, Cond.code yX8_doPass cX8_doPass 3 (some .int), Cond.constant RX8 83 (99999), Cond.methodLink RX8 84 yX8_passSecond]
def wsL_law_r16 : List Cond := [Cond.instanceMethod yX8_passSecond, Cond.selects RX8 yX8_passSecond yX8_passSecond, Cond.code yX8_passSecond cX8_passSecond 2 none, Cond.methodLink RX8 74 yX8_decayed, Cond.instanceMethod yX8_decayed, Cond.selects RX8 yX8_decayed yX8_decayed, Cond.code yX8_decayed cX8_decayed 3 (some .int), Cond.methodLink RX8 77 yX8_owedFor, Cond.instanceMethod yX8_owedFor, Cond.selects RX8 yX8_owedFor yX8_owedFor, Cond.code yX8_owedFor cX8_owedFor 2 (some .int), Cond.methodLink RX8 80 yX8_drop, Cond.instanceMethod yX8_drop, Cond.selects RX8 yX8_drop yX8_drop, Cond.code yX8_drop cX8_drop 3 none, Cond.methodLink RL 39 yX7_play, Cond.instanceMethod yX7_play, Cond.selects RX7 yX7_play yX7_play, Cond.code yX7_play cX7_play 2 (some .int), Cond.methodLink RX7 70 yX2_playEncore, Cond.instanceMethod yX2_playEncore, Cond.selects RX2 yX2_playEncore yX2_playEncore, Cond.code yX2_playEncore cX2_playEncore 2 (some .int), Cond.methodLink RX2 137 yX0_playEarliestOf]
def wsL_law_r17 : List Cond := [Cond.instanceMethod yX0_playEarliestOf, Cond.selects RX0 yX0_playEarliestOf yX0_playEarliestOf, Cond.code yX0_playEarliestOf cX0_playEarliestOf 4 (some .boolean), Cond.methodLink RX0 51 yX0_earliestOf, Cond.instanceMethod yX0_earliestOf, Cond.selects RX0 yX0_earliestOf yX0_earliestOf, Cond.code yX0_earliestOf cX0_earliestOf 3 (some .int), Cond.methodLink RX2 140 yX0_owedBy, Cond.instanceMethod yX0_owedBy, Cond.selects RX0 yX0_owedBy yX0_owedBy, Cond.code yX0_owedBy cX0_owedBy 4 (some .int), Cond.methodLink RL 42 yX8_play, Cond.instanceMethod yX8_play, Cond.selects RX8 yX8_play yX8_play, Cond.code yX8_play cX8_play 2 (some .int), Cond.methodLink RX8 121 yX8_doPlay, Cond.instanceMethod yX8_doPlay, Cond.selects RX8 yX8_doPlay yX8_doPlay, Cond.code yX8_doPlay cX8_doPlay 4 (some .int), Cond.methodLink RX8 87 yX8_earliest, Cond.instanceMethod yX8_earliest, Cond.selects RX8 yX8_earliest yX8_earliest, Cond.code yX8_earliest cX8_earliest 3 (some .int), Cond.methodLink RX8 90 yX8_owes]
def wsL_law_r18 : List Cond := [Cond.instanceMethod yX8_owes, Cond.selects RX8 yX8_owes yX8_owes, Cond.code yX8_owes cX8_owes 4 (some .int), Cond.methodLink RL 43 yX7_call, Cond.instanceMethod yX7_call, Cond.selects RX7 yX7_call yX7_call, Cond.code yX7_call cX7_call 1 (some .int), Cond.methodLink RX7 73 yX2_takeCurtain, Cond.instanceMethod yX2_takeCurtain, Cond.selects RX2 yX2_takeCurtain yX2_takeCurtain, Cond.code yX2_takeCurtain cX2_takeCurtain 1 (some .int), Cond.methodLink RL 47 yX8_call, Cond.instanceMethod yX8_call, Cond.selects RX8 yX8_call yX8_call, Cond.code yX8_call cX8_call 1 (some .int), Cond.methodLink RX8 124 yX8_doCall, Cond.instanceMethod yX8_doCall, Cond.selects RX8 yX8_doCall yX8_doCall, Cond.code yX8_doCall cX8_doCall 1 (some .int), Cond.methodLink RL 48 yX7_night, Cond.instanceMethod yX7_night, Cond.selects RX7 yX7_night yX7_night, Cond.code yX7_night cX7_night 1 (some .int), Cond.methodLink RX7 77 yX2_endNight]
def wsL_law_r19 : List Cond := [Cond.instanceMethod yX2_endNight, Cond.selects RX2 yX2_endNight yX2_endNight, Cond.code yX2_endNight cX2_endNight 3 (some .int), Cond.methodLink RX2 143 yX2_recordPlace, Cond.static yX2_recordPlace, Cond.code yX2_recordPlace cX2_recordPlace 2 (some .int), Cond.methodLink RX2 146 yX5_fill, Cond.methodLink RX2 149 yX6_beginNight, Cond.instanceMethod yX6_beginNight, Cond.selects RX6 yX6_beginNight yX6_beginNight, Cond.code yX6_beginNight cX6_beginNight 1 none, Cond.methodLink RL 51 yX8_night, Cond.instanceMethod yX8_night, Cond.selects RX8 yX8_night yX8_night, Cond.code yX8_night cX8_night 1 (some .int), Cond.methodLink RX8 128 yX8_doNight, Cond.instanceMethod yX8_doNight, Cond.selects RX8 yX8_doNight yX8_doNight, Cond.code yX8_doNight cX8_doNight 3 (some .int), Cond.methodLink RX8 93 yX8_keepRecord, Cond.instanceMethod yX8_keepRecord, Cond.selects RX8 yX8_keepRecord yX8_keepRecord, Cond.code yX8_keepRecord cX8_keepRecord 2 none, Cond.methodLink RL 52 yX7_write]
def wsL_law_r20 : List Cond := [Cond.instanceMethod yX7_write, Cond.selects RX7 yX7_write yX7_write, Cond.code yX7_write cX7_write 1 (some .int), Cond.methodLink RX7 80 yX4_clear, Cond.instanceMethod yX4_clear, Cond.selects RX4 yX4_clear yX4_clear, Cond.code yX4_clear cX4_clear 1 none, Cond.fieldLink RX4 15 "ApplauseTallies$Pad" "length" "I", Cond.methodLink RX7 83 yX2_writeBill, Cond.instanceMethod yX2_writeBill, Cond.selects RX2 yX2_writeBill yX2_writeBill, Cond.code yX2_writeBill cX2_writeBill 4 none, Cond.methodLink RX2 152 yX4_appendPart, Cond.instanceMethod yX4_appendPart, Cond.selects RX4 yX4_appendPart yX4_appendPart, Cond.code yX4_appendPart cX4_appendPart 6 none, Cond.constant RX4 23 (1000000000), Cond.methodLink RX4 19 yX4_append, Cond.instanceMethod yX4_append, Cond.selects RX4 yX4_append yX4_append, Cond.code yX4_append cX4_append 2 none, Cond.methodLink RX7 86 yX4_length, Cond.instanceMethod yX4_length, Cond.selects RX4 yX4_length yX4_length]
def wsL_law_r21 : List Cond := [Cond.code yX4_length cX4_length 1 (some .int), Cond.methodLink RL 55 yX8_write, Cond.instanceMethod yX8_write, Cond.selects RX8 yX8_write yX8_write, Cond.code yX8_write cX8_write 2 (some .int), Cond.fieldLink RX8 131 "ApplauseTalliesModel" "length" "I", Cond.methodLink RX8 134 yX8_writeSign, Cond.instanceMethod yX8_writeSign, Cond.selects RX8 yX8_writeSign yX8_writeSign, Cond.code yX8_writeSign cX8_writeSign 2 none, Cond.methodLink RX8 137 yX8_writeNumber, Cond.instanceMethod yX8_writeNumber, Cond.selects RX8 yX8_writeNumber yX8_writeNumber, Cond.code yX8_writeNumber cX8_writeNumber 3 none, Cond.methodLink RL 56 yX7_of, Cond.instanceMethod yX7_of, Cond.selects RX7 yX7_of yX7_of, Cond.code yX7_of cX7_of 3 (some .int), Cond.methodLink RX7 89 yX2_aboutSeat, Cond.instanceMethod yX2_aboutSeat, Cond.selects RX2 yX2_aboutSeat yX2_aboutSeat, Cond.code yX2_aboutSeat cX2_aboutSeat 3 (some .int), Cond.methodLink RX2 164 yX6_hasClapped, Cond.methodLink RL 59 yX8_of]
def wsL_law_r22 : List Cond := [Cond.instanceMethod yX8_of, Cond.selects RX8 yX8_of yX8_of, Cond.code yX8_of cX8_of 3 (some .int), Cond.methodLink RL 60 yX7_performer, Cond.instanceMethod yX7_performer, Cond.selects RX7 yX7_performer yX7_performer, Cond.code yX7_performer cX7_performer 3 (some .int), Cond.methodLink RX7 96 yX0_aboutPerformer, Cond.instanceMethod yX0_aboutPerformer, Cond.selects RX0 yX0_aboutPerformer yX0_aboutPerformer, Cond.code yX0_aboutPerformer cX0_aboutPerformer 3 (some .int), Cond.methodLink RX0 58 yX0_owedBy, Cond.methodLink RL 63 yX8_performer, Cond.instanceMethod yX8_performer, Cond.selects RX8 yX8_performer yX8_performer, Cond.code yX8_performer cX8_performer 3 (some .int), Cond.methodLink RX8 140 yX8_ofPerformer, Cond.instanceMethod yX8_ofPerformer, Cond.selects RX8 yX8_ofPerformer yX8_ofPerformer, Cond.code yX8_ofPerformer cX8_ofPerformer 3 (some .int), Cond.methodLink RL 64 yX7_owed, Cond.instanceMethod yX7_owed, Cond.selects RX7 yX7_owed yX7_owed, Cond.code yX7_owed cX7_owed 3 (some .int)]
def wsL_law_r23 : List Cond := [Cond.methodLink RX7 105 yX0_aboutOwed, Cond.instanceMethod yX0_aboutOwed, Cond.selects RX0 yX0_aboutOwed yX0_aboutOwed, Cond.code yX0_aboutOwed cX0_aboutOwed 4 (some .int), Cond.methodLink RL 67 yX8_owed, Cond.instanceMethod yX8_owed, Cond.selects RX8 yX8_owed yX8_owed, Cond.code yX8_owed cX8_owed 3 (some .int), Cond.methodLink RL 68 yX7_clapper, Cond.instanceMethod yX7_clapper, Cond.selects RX7 yX7_clapper yX7_clapper, Cond.code yX7_clapper cX7_clapper 2 (some .int), Cond.methodLink RX7 113 yX6_clapperAt, Cond.instanceMethod yX6_clapperAt, Cond.selects RX6 yX6_clapperAt yX6_clapperAt, Cond.code yX6_clapperAt cX6_clapperAt 2 (some .int), Cond.methodLink RL 71 yX8_clapper, Cond.instanceMethod yX8_clapper, Cond.selects RX8 yX8_clapper yX8_clapper, Cond.code yX8_clapper cX8_clapper 2 (some .int), Cond.methodLink RL 72 yX7_record, Cond.instanceMethod yX7_record, Cond.selects RX7 yX7_record yX7_record, Cond.code yX7_record cX7_record 3 (some .int)]
def wsL_law_r24 : List Cond := [Cond.methodLink RX7 118 yX2_recordOf, Cond.instanceMethod yX2_recordOf, Cond.selects RX2 yX2_recordOf yX2_recordOf, Cond.code yX2_recordOf cX2_recordOf 3 (some .int), Cond.methodLink RL 75 yX8_record, Cond.instanceMethod yX8_record, Cond.selects RX8 yX8_record yX8_record, Cond.code yX8_record cX8_record 3 (some .int), Cond.methodLink RL 76 yX7_sign, Cond.instanceMethod yX7_sign, Cond.selects RX7 yX7_sign yX7_sign, Cond.code yX7_sign cX7_sign 2 (some .int), Cond.methodLink RX7 121 yX4_has, Cond.instanceMethod yX4_has, Cond.selects RX4 yX4_has yX4_has, Cond.code yX4_has cX4_has 2 (some .boolean), Cond.methodLink RX7 125 yX4_codeAt, Cond.instanceMethod yX4_codeAt, Cond.selects RX4 yX4_codeAt yX4_codeAt, Cond.code yX4_codeAt cX4_codeAt 2 (some .int), Cond.methodLink RL 79 yX8_sign, Cond.instanceMethod yX8_sign, Cond.selects RX8 yX8_sign yX8_sign, Cond.code yX8_sign cX8_sign 2 (some .int)]
def wsL_law_r25 : List Cond := [Cond.methodLink RL 80 yX7_count, Cond.instanceMethod yX7_count, Cond.selects RX7 yX7_count yX7_count, Cond.code yX7_count cX7_count 2 (some .int), Cond.methodLink RX7 128 yX1_kept, Cond.instanceMethod yX1_kept, Cond.selects RX1 yX1_kept yX1_kept, Cond.code yX1_kept cX1_kept 1 (some .int), Cond.methodLink RX7 131 yX2_numberOf, Cond.instanceMethod yX2_numberOf, Cond.selects RX2 yX2_numberOf yX2_numberOf, Cond.code yX2_numberOf cX2_numberOf 2 (some .int), Cond.methodLink RX2 179 yX5_sum, Cond.instanceMethod yX5_sum, Cond.selects RX5 yX5_sum yX5_sum, Cond.code yX5_sum cX5_sum 3 (some .int), Cond.methodLink RX2 186 yX2_suspectedNow, Cond.instanceMethod yX2_suspectedNow, Cond.selects RX2 yX2_suspectedNow yX2_suspectedNow, Cond.code yX2_suspectedNow cX2_suspectedNow 1 (some .int), Cond.methodLink RX2 170 yX6_suspected, Cond.instanceMethod yX6_suspected, Cond.selects RX6 yX6_suspected yX6_suspected, Cond.code yX6_suspected cX6_suspected 4 (some .int)]
def wsL_law_r26 : List Cond := [Cond.methodLink RL 83 yX8_count, Cond.instanceMethod yX8_count, Cond.selects RX8 yX8_count yX8_count, Cond.code yX8_count cX8_count 2 (some .int), Cond.methodLink RX8 143 yX8_soFar, Cond.instanceMethod yX8_soFar, Cond.selects RX8 yX8_soFar yX8_soFar, Cond.code yX8_soFar cX8_soFar 4 (some .int), Cond.methodLink RL 84 yX7_quietIn, Cond.instanceMethod yX7_quietIn, Cond.selects RX7 yX7_quietIn yX7_quietIn, Cond.code yX7_quietIn cX7_quietIn 2 (some .int), Cond.methodLink RX7 134 yX2_secondsUntil, Cond.instanceMethod yX2_secondsUntil, Cond.selects RX2 yX2_secondsUntil yX2_secondsUntil, Cond.code yX2_secondsUntil cX2_secondsUntil 4 (some .int), Cond.methodLink RL 87 yX8_quietIn, Cond.instanceMethod yX8_quietIn, Cond.selects RX8 yX8_quietIn yX8_quietIn, Cond.code yX8_quietIn cX8_quietIn 4 (some .int), Cond.methodLink RL 88 yX7_clapsFor, Cond.instanceMethod yX7_clapsFor, Cond.selects RX7 yX7_clapsFor yX7_clapsFor, Cond.code yX7_clapsFor cX7_clapsFor 2 (some .int)]
def wsL_law_r27 : List Cond := [Cond.methodLink RX7 137 yX2_clapsUntilEncore, Cond.instanceMethod yX2_clapsUntilEncore, Cond.selects RX2 yX2_clapsUntilEncore yX2_clapsUntilEncore, Cond.code yX2_clapsUntilEncore cX2_clapsUntilEncore 4 (some .int), Cond.methodLink RL 91 yX8_clapsFor, Cond.instanceMethod yX8_clapsFor, Cond.selects RX8 yX8_clapsFor yX8_clapsFor, Cond.code yX8_clapsFor cX8_clapsFor 4 (some .int), Cond.methodLink RL 92 yX7_lapsesIn, Cond.instanceMethod yX7_lapsesIn, Cond.selects RX7 yX7_lapsesIn yX7_lapsesIn, Cond.code yX7_lapsesIn cX7_lapsesIn 2 (some .int), Cond.methodLink RX7 140 yX2_secondsUntilLapse, Cond.instanceMethod yX2_secondsUntilLapse, Cond.selects RX2 yX2_secondsUntilLapse yX2_secondsUntilLapse, Cond.code yX2_secondsUntilLapse cX2_secondsUntilLapse 4 (some .int), Cond.methodLink RX2 195 Lib.Math.max.name, Cond.methodLink RX2 189 yX0_earliestOf, Cond.methodLink RL 95 yX8_lapsesIn, Cond.instanceMethod yX8_lapsesIn, Cond.selects RX8 yX8_lapsesIn yX8_lapsesIn, Cond.code yX8_lapsesIn cX8_lapsesIn 4 (some .int), Cond.methodLink RL 96 yX7_calls, Cond.instanceMethod yX7_calls]
def wsL_law_r28 : List Cond := [Cond.selects RX7 yX7_calls yX7_calls, Cond.code yX7_calls cX7_calls 1 (some .int), Cond.methodLink RX7 143 yX2_curtainsLeft, Cond.instanceMethod yX2_curtainsLeft, Cond.selects RX2 yX2_curtainsLeft yX2_curtainsLeft, Cond.code yX2_curtainsLeft cX2_curtainsLeft 3 (some .int), Cond.methodLink RL 99 yX8_calls, Cond.instanceMethod yX8_calls, Cond.selects RX8 yX8_calls yX8_calls, Cond.code yX8_calls cX8_calls 3 (some .int), Cond.methodLink RL 100 yX7_ifFound, Cond.instanceMethod yX7_ifFound, Cond.selects RX7 yX7_ifFound yX7_ifFound, Cond.code yX7_ifFound cX7_ifFound 2 (some .int), Cond.fieldLink RX7 146 "ApplauseTallies" "LEAST" "[I", Cond.fieldLink RX7 150 "ApplauseTallies" "MOST" "[I", Cond.methodLink RX7 153 yX6_suspected, Cond.methodLink RL 103 yX8_ifFound, Cond.instanceMethod yX8_ifFound, Cond.selects RX8 yX8_ifFound yX8_ifFound, Cond.code yX8_ifFound cX8_ifFound 2 (some .int), Cond.methodLink RL 106 yX7_put, Cond.instanceMethod yX7_put, Cond.selects RX7 yX7_put yX7_put]
def wsL_law_r29 : List Cond := [Cond.code yX7_put cX7_put 3 (some .int), Cond.methodLink RX7 156 yX4_appendAll, Cond.instanceMethod yX4_appendAll, Cond.selects RX4 yX4_appendAll yX4_appendAll, Cond.code yX4_appendAll cX4_appendAll 5 (some .int), Cond.constantLong RX4 28 (255), Cond.methodLink RX4 24 yX4_amountOf, Cond.static yX4_amountOf, Cond.code yX4_amountOf cX4_amountOf 6 (some .int), Cond.methodLink RL 110 yX8_put, Cond.instanceMethod yX8_put, Cond.selects RX8 yX8_put yX8_put, Cond.code yX8_put cX8_put 5 (some .int), Cond.constantLong RX8 146 (255), Cond.methodLink RX8 151 yX8_charactersIn, Cond.static yX8_charactersIn, Cond.code yX8_charactersIn cX8_charactersIn 5 (some .int), Cond.methodLink RX8 148 yX8_isCharacter, Cond.static yX8_isCharacter, Cond.code yX8_isCharacter cX8_isCharacter 1 (some .boolean), Cond.methodLink RL 111 yX7_wipe, Cond.instanceMethod yX7_wipe, Cond.selects RX7 yX7_wipe yX7_wipe, Cond.code yX7_wipe cX7_wipe 2 (some .int)]
def wsL_law_r30 : List Cond := [Cond.methodLink RL 114 yX8_wipe, Cond.instanceMethod yX8_wipe, Cond.selects RX8 yX8_wipe yX8_wipe, Cond.code yX8_wipe cX8_wipe 2 (some .int), Cond.methodLink RL 115 yX7_fault, Cond.instanceMethod yX7_fault, Cond.selects RX7 yX7_fault yX7_fault, Cond.code yX7_fault cX7_fault 1 (some .int), Cond.methodLink RX7 160 yX3_faultPlace, Cond.instanceMethod yX3_faultPlace, Cond.selects RX3 yX3_faultPlace yX3_faultPlace, Cond.code yX3_faultPlace cX3_faultPlace 2 (some .int), Cond.fieldLink RX3 15 "ApplauseTallies$OrderReader" "place" "I", Cond.methodLink RX3 19 yX3_readOrder, Cond.instanceMethod yX3_readOrder, Cond.selects RX3 yX3_readOrder yX3_readOrder, Cond.code yX3_readOrder cX3_readOrder 1 (some .boolean), Cond.fieldLink RX3 40 "ApplauseTallies$OrderReader" "kind" "I", Cond.fieldLink RX3 33 "ApplauseTallies$OrderReader" "times" "I", Cond.methodLink RX3 70 yX4_codeAt, Cond.methodLink RX3 73 yX3_readNumber, Cond.instanceMethod yX3_readNumber, Cond.selects RX3 yX3_readNumber yX3_readNumber, Cond.code yX3_readNumber cX3_readNumber 3 (some .boolean)]
def wsL_law_r31 : List Cond := [Cond.fieldLink RX3 43 "ApplauseTallies$OrderReader" "number" "I", Cond.methodLink RX3 80 yX3_digitHere, Cond.instanceMethod yX3_digitHere, Cond.selects RX3 yX3_digitHere yX3_digitHere, Cond.code yX3_digitHere cX3_digitHere 2 (some .int), Cond.methodLink RX3 77 yX3_readTimes, Cond.instanceMethod yX3_readTimes, Cond.selects RX3 yX3_readTimes yX3_readTimes, Cond.code yX3_readTimes cX3_readTimes 3 (some .boolean), Cond.methodLink RX3 29 yX3_readSign, Cond.instanceMethod yX3_readSign, Cond.selects RX3 yX3_readSign yX3_readSign, Cond.code yX3_readSign cX3_readSign 2 (some .boolean), Cond.methodLink RX3 23 yX4_length, Cond.methodLink RL 118 yX8_fault, Cond.instanceMethod yX8_fault, Cond.selects RX8 yX8_fault yX8_fault, Cond.code yX8_fault cX8_fault 1 (some .int), Cond.methodLink RX8 186 yX8_findFault, Cond.instanceMethod yX8_findFault, Cond.selects RX8 yX8_findFault yX8_findFault, Cond.code yX8_findFault cX8_findFault 1 (some .int), Cond.fieldLink RX8 155 "ApplauseTalliesModel" "at" "I", Cond.methodLink RX8 183 yX8_readsOrder]
def wsL_law_r32 : List Cond := [Cond.instanceMethod yX8_readsOrder, Cond.selects RX8 yX8_readsOrder yX8_readsOrder, Cond.code yX8_readsOrder cX8_readsOrder 1 (some .boolean), Cond.fieldLink RX8 176 "ApplauseTalliesModel" "sign" "I", Cond.fieldLink RX8 173 "ApplauseTalliesModel" "times" "I", Cond.fieldLink RX8 167 "ApplauseTalliesModel" "first" "I", Cond.methodLink RX8 158 yX8_code, Cond.instanceMethod yX8_code, Cond.selects RX8 yX8_code yX8_code, Cond.code yX8_code cX8_code 1 (some .int), Cond.methodLink RX8 161 yX8_takeDigit, Cond.instanceMethod yX8_takeDigit, Cond.selects RX8 yX8_takeDigit yX8_takeDigit, Cond.code yX8_takeDigit cX8_takeDigit 3 (some .int), Cond.methodLink RX8 164 yX8_readNumber, Cond.instanceMethod yX8_readNumber, Cond.selects RX8 yX8_readNumber yX8_readNumber, Cond.code yX8_readNumber cX8_readNumber 2 (some .int), Cond.methodLink RX8 179 yX8_readsClaps, Cond.instanceMethod yX8_readsClaps, Cond.selects RX8 yX8_readsClaps yX8_readsClaps, Cond.code yX8_readsClaps cX8_readsClaps 1 (some .boolean), Cond.methodLink RX8 170 yX8_takes, Cond.instanceMethod yX8_takes]
def wsL_law_r33 : List Cond := [Cond.selects RX8 yX8_takes yX8_takes, Cond.code yX8_takes cX8_takes 3 (some .boolean), Cond.methodLink RL 119 yX7_carryOut, Cond.instanceMethod yX7_carryOut, Cond.selects RX7 yX7_carryOut yX7_carryOut, Cond.code yX7_carryOut cX7_carryOut 2 (some .int), Cond.methodLink RX7 163 yX3_carryOutIn, Cond.instanceMethod yX3_carryOutIn, Cond.selects RX3 yX3_carryOutIn yX3_carryOutIn, Cond.code yX3_carryOutIn cX3_carryOutIn 5 (some .int), Cond.methodLink RX3 36 yX3_carryOrderOutIn, Cond.instanceMethod yX3_carryOrderOutIn, Cond.selects RX3 yX3_carryOrderOutIn yX3_carryOrderOutIn, Cond.code yX3_carryOrderOutIn cX3_carryOrderOutIn 2 (some .int), Cond.methodLink RX3 46 yX2_endPiece, Cond.methodLink RX3 52 yX2_takeClap, Cond.methodLink RX3 55 yX2_letPass, Cond.methodLink RX3 58 yX2_playEncore, Cond.methodLink RX3 61 yX2_takeCurtain, Cond.methodLink RX3 64 yX2_endNight, Cond.methodLink RX3 67 yX2_switchPay, Cond.methodLink RL 122 yX8_carryOut, Cond.instanceMethod yX8_carryOut, Cond.selects RX8 yX8_carryOut yX8_carryOut]
def wsL_law_r34 : List Cond := [Cond.code yX8_carryOut cX8_carryOut 4 (some .int), Cond.methodLink RX8 189 yX8_doesOrder, Cond.instanceMethod yX8_doesOrder, Cond.selects RX8 yX8_doesOrder yX8_doesOrder, Cond.code yX8_doesOrder cX8_doesOrder 1 (some .int), Cond.methodLink RL 123 yX7_undo, Cond.instanceMethod yX7_undo, Cond.selects RX7 yX7_undo yX7_undo, Cond.code yX7_undo cX7_undo 1 (some .int), Cond.methodLink RX7 167 yX1_takeBack, Cond.instanceMethod yX1_takeBack, Cond.selects RX1 yX1_takeBack yX1_takeBack, Cond.code yX1_takeBack cX1_takeBack 4 (some .int), Cond.methodLink RL 126 yX8_undo, Cond.instanceMethod yX8_undo, Cond.selects RX8 yX8_undo yX8_undo, Cond.code yX8_undo cX8_undo 2 (some .int), Cond.methodLink RL 127 yX7_save, Cond.instanceMethod yX7_save, Cond.selects RX7 yX7_save yX7_save, Cond.code yX7_save cX7_save 3 (some .int), Cond.methodLink RX7 170 yX2_copyFrom, Cond.methodLink RL 130 yX8_save, Cond.instanceMethod yX8_save]
def wsL_law_r35 : List Cond := [Cond.selects RX8 yX8_save yX8_save, Cond.code yX8_save cX8_save 3 (some .int), Cond.methodLink RX8 43 yX8_isSlot, Cond.static yX8_isSlot, Cond.code yX8_isSlot cX8_isSlot 1 (some .boolean), Cond.methodLink RL 131 yX7_restore, Cond.instanceMethod yX7_restore, Cond.selects RX7 yX7_restore yX7_restore, Cond.code yX7_restore cX7_restore 3 (some .int), Cond.methodLink RL 134 yX8_restore, Cond.instanceMethod yX8_restore, Cond.selects RX8 yX8_restore yX8_restore, Cond.code yX8_restore cX8_restore 3 (some .int)]
def wsL_law : List Cond := (wsL_law_r1 ++ (wsL_law_r2 ++ (wsL_law_r3 ++ (wsL_law_r4 ++ (wsL_law_r5 ++ (wsL_law_r6 ++ (wsL_law_r7 ++ (wsL_law_r8 ++ (wsL_law_r9 ++ (wsL_law_r10 ++ (wsL_law_r11 ++ (wsL_law_r12 ++ (wsL_law_r13 ++ (wsL_law_r14 ++ (wsL_law_r15 ++ (wsL_law_r16 ++ (wsL_law_r17 ++ (wsL_law_r18 ++ (wsL_law_r19 ++ (wsL_law_r20 ++ (wsL_law_r21 ++ (wsL_law_r22 ++ (wsL_law_r23 ++ (wsL_law_r24 ++ (wsL_law_r25 ++ (wsL_law_r26 ++ (wsL_law_r27 ++ (wsL_law_r28 ++ (wsL_law_r29 ++ (wsL_law_r30 ++ (wsL_law_r31 ++ (wsL_law_r32 ++ (wsL_law_r33 ++ (wsL_law_r34 ++ wsL_law_r35)))))))))))))))))))))))))))))))))) ++ wsX70 ++ wsX80 ++ wsX20 ++ wsX10 ++ wsX40 ++ wsX30 ++ wsX50 ++ wsX60 ++ wsX00 ++ ([] : List Cond)
theorem zz_in {big ws : List Cond} (ps : List Nat) (hp : ws = ps.filterMap (fun i => big[i]?)) : ∀ w ∈ ws, w ∈ big := by
  intro w hw
  rw [hp] at hw
  obtain ⟨i, -, hi⟩ := List.mem_filterMap.mp hw
  exact List.mem_of_getElem? hi
theorem zz_app {big a b : List Cond} (ha : ∀ w ∈ a, w ∈ big) (hb : ∀ w ∈ b, w ∈ big) : ∀ w ∈ a ++ b, w ∈ big := fun w h => (List.mem_append.mp h).elim (ha w) (hb w)
set_option maxRecDepth 20000 in
theorem zi_wsL_law_r1 : ∀ w ∈ wsL_law_r1, w ∈ lw_tbl := zz_in [59, 60, 48, 689, 690, 57, 1018, 61, 62, 63, 64, 65, 66, 67, 68, 49, 259, 205, 206, 54, 260, 261, 224, 225] (by decide +kernel)
set_option maxRecDepth 20000 in
theorem zi_wsL_law_r2 : ∀ w ∈ wsL_law_r2, w ∈ lw_tbl := zz_in [55, 262, 237, 238, 56, 263, 69, 70, 71, 72, 73, 74, 50, 167, 87, 88, 52, 168, 129, 130, 53, 170, 172, 173] (by decide +kernel)
set_option maxRecDepth 20000 in
theorem zi_wsL_law_r3 : ∀ w ∈ wsL_law_r3, w ∈ lw_tbl := zz_in [179, 75, 76, 77, 78, 79, 80, 51, 81, 86, 82, 89, 90, 91, 92, 93, 99, 101, 103, 105, 107, 94, 95, 96] (by decide +kernel)
set_option maxRecDepth 20000 in
theorem zi_wsL_law_r4 : ∀ w ∈ wsL_law_r4, w ∈ lw_tbl := zz_in [97, 98, 132, 133, 134, 135, 137, 138, 140, 142, 144, 136, 163, 164, 165, 166, 207, 208, 209, 210, 211, 214, 213, 227] (by decide +kernel)
set_option maxRecDepth 20000 in
theorem zi_wsL_law_r5 : ∀ w ∈ wsL_law_r5, w ∈ lw_tbl := zz_in [228, 229, 230, 239, 240, 241, 242, 243, 691, 692, 693, 694, 699, 700, 701, 703, 704, 705, 695, 697, 11, 698, 275, 276] (by decide +kernel)
set_option maxRecDepth 20000 in
theorem zi_wsL_law_r6 : ∀ w ∈ wsL_law_r6, w ∈ lw_tbl := zz_in [277, 278, 279, 280, 281, 282, 215, 283, 285, 0, 286, 287, 288, 289, 290, 174, 175, 177, 180, 181, 291, 292, 293, 294] (by decide +kernel)
set_option maxRecDepth 20000 in
theorem zi_wsL_law_r7 : ∀ w ∈ wsL_law_r7, w ∈ lw_tbl := zz_in [295, 296, 297, 298, 300, 299, 58, 301, 302, 303, 304, 108, 109, 111, 305, 306, 307, 308, 309, 146, 310, 311, 312, 313] (by decide +kernel)
set_option maxRecDepth 20000 in
theorem zi_wsL_law_r8 : ∀ w ∈ wsL_law_r8, w ∈ lw_tbl := zz_in [314, 319, 320, 321, 322, 323, 324, 325, 326, 216, 327, 762, 763, 764, 765, 747, 748, 749, 766, 767, 768, 769, 770, 771] (by decide +kernel)
set_option maxRecDepth 20000 in
theorem zi_wsL_law_r9 : ∀ w ∈ wsL_law_r9, w ∈ lw_tbl := zz_in [754, 756, 12, 757, 772, 774, 14, 775, 758, 760, 13, 761, 702, 328, 329, 330, 331, 332, 333, 334, 335, 337, 338, 776] (by decide +kernel)
set_option maxRecDepth 20000 in
theorem zi_wsL_law_r10 : ∀ w ∈ wsL_law_r10, w ∈ lw_tbl := zz_in [777, 778, 779, 780, 781, 782, 783, 785, 15, 786, 339, 340, 341, 342, 343, 344, 345, 346, 787, 788, 789, 790, 791, 793] (by decide +kernel)
set_option maxRecDepth 20000 in
theorem zi_wsL_law_r11 : ∀ w ∈ wsL_law_r11, w ∈ lw_tbl := zz_in [16, 794, 795, 797, 17, 798, 347, 348, 349, 350, 351, 352, 353, 354, 356, 357, 358, 360, 1, 361, 362, 363, 364, 365] (by decide +kernel)
set_option maxRecDepth 20000 in
theorem zi_wsL_law_r12 : ∀ w ∈ wsL_law_r12, w ∈ lw_tbl := zz_in [366, 367, 368, 369, 799, 800, 801, 802, 803, 805, 18, 806, 807, 808, 809, 810, 812, 19, 813, 370, 371, 372, 373, 374] (by decide +kernel)
set_option maxRecDepth 20000 in
theorem zi_wsL_law_r13 : ∀ w ∈ wsL_law_r13, w ∈ lw_tbl := zz_in [375, 376, 377, 389, 378, 379, 380, 381, 382, 383, 384, 385, 386, 387, 388, 390, 392, 2, 393, 394, 395, 396, 397, 398] (by decide +kernel)
set_option maxRecDepth 20000 in
theorem zi_wsL_law_r14 : ∀ w ∈ wsL_law_r14, w ∈ lw_tbl := zz_in [399, 814, 815, 816, 817, 818, 820, 20, 821, 822, 824, 21, 825, 826, 828, 22, 829, 830, 832, 23, 833, 400, 401, 402] (by decide +kernel)
set_option maxRecDepth 20000 in
theorem zi_wsL_law_r15 : ∀ w ∈ wsL_law_r15, w ∈ lw_tbl := zz_in [403, 404, 405, 406, 407, 408, 410, 411, 412, 413, 414, 415, 416, 417, 834, 835, 836, 837, 838, 840, 24, 841, 842, 843] (by decide +kernel)
set_option maxRecDepth 20000 in
theorem zi_wsL_law_r16 : ∀ w ∈ wsL_law_r16, w ∈ lw_tbl := zz_in [845, 25, 846, 847, 849, 26, 850, 851, 853, 27, 854, 855, 857, 28, 858, 418, 419, 420, 421, 422, 423, 424, 425, 426] (by decide +kernel)
set_option maxRecDepth 20000 in
theorem zi_wsL_law_r17 : ∀ w ∈ wsL_law_r17, w ∈ lw_tbl := zz_in [427, 428, 429, 430, 431, 432, 433, 434, 435, 436, 437, 859, 860, 861, 862, 863, 865, 29, 866, 867, 869, 30, 870, 871] (by decide +kernel)
set_option maxRecDepth 20000 in
theorem zi_wsL_law_r18 : ∀ w ∈ wsL_law_r18, w ∈ lw_tbl := zz_in [873, 31, 874, 438, 439, 440, 441, 442, 443, 444, 445, 875, 876, 877, 878, 879, 881, 32, 882, 446, 447, 448, 449, 450] (by decide +kernel)
set_option maxRecDepth 20000 in
theorem zi_wsL_law_r19 : ∀ w ∈ wsL_law_r19, w ∈ lw_tbl := zz_in [451, 452, 453, 454, 455, 456, 457, 458, 459, 460, 461, 883, 884, 885, 886, 887, 889, 33, 890, 891, 893, 34, 894, 462] (by decide +kernel)
set_option maxRecDepth 20000 in
theorem zi_wsL_law_r20 : ∀ w ∈ wsL_law_r20, w ∈ lw_tbl := zz_in [463, 464, 465, 466, 467, 468, 469, 231, 470, 471, 472, 473, 474, 475, 476, 477, 482, 478, 480, 3, 481, 483, 484, 485] (by decide +kernel)
set_option maxRecDepth 20000 in
theorem zi_wsL_law_r21 : ∀ w ∈ wsL_law_r21, w ∈ lw_tbl := zz_in [486, 895, 896, 897, 898, 706, 899, 901, 35, 902, 903, 905, 36, 906, 487, 488, 489, 490, 491, 492, 493, 494, 495, 907] (by decide +kernel)
set_option maxRecDepth 20000 in
theorem zi_wsL_law_r22 : ∀ w ∈ wsL_law_r22, w ∈ lw_tbl := zz_in [908, 909, 910, 496, 497, 498, 499, 500, 501, 502, 503, 505, 911, 912, 913, 914, 915, 917, 37, 918, 506, 507, 508, 509] (by decide +kernel)
set_option maxRecDepth 20000 in
theorem zi_wsL_law_r23 : ∀ w ∈ wsL_law_r23, w ∈ lw_tbl := zz_in [510, 511, 512, 513, 919, 920, 921, 922, 514, 515, 516, 517, 518, 519, 520, 521, 923, 924, 925, 926, 522, 523, 524, 525] (by decide +kernel)
set_option maxRecDepth 20000 in
theorem zi_wsL_law_r24 : ∀ w ∈ wsL_law_r24, w ∈ lw_tbl := zz_in [526, 527, 528, 529, 927, 928, 929, 930, 530, 531, 532, 533, 534, 535, 536, 537, 538, 539, 540, 541, 931, 932, 933, 934] (by decide +kernel)
set_option maxRecDepth 20000 in
theorem zi_wsL_law_r25 : ∀ w ∈ wsL_law_r25, w ∈ lw_tbl := zz_in [542, 543, 544, 545, 546, 547, 548, 549, 550, 551, 552, 553, 554, 555, 556, 557, 558, 560, 4, 561, 562, 563, 564, 565] (by decide +kernel)
set_option maxRecDepth 20000 in
theorem zi_wsL_law_r26 : ∀ w ∈ wsL_law_r26, w ∈ lw_tbl := zz_in [935, 936, 937, 938, 939, 941, 38, 942, 566, 567, 568, 569, 570, 571, 572, 573, 943, 944, 945, 946, 574, 575, 576, 577] (by decide +kernel)
set_option maxRecDepth 20000 in
theorem zi_wsL_law_r27 : ∀ w ∈ wsL_law_r27, w ∈ lw_tbl := zz_in [578, 579, 580, 581, 947, 948, 949, 950, 582, 583, 584, 585, 586, 587, 588, 589, 591, 590, 951, 952, 953, 954, 592, 593] (by decide +kernel)
set_option maxRecDepth 20000 in
theorem zi_wsL_law_r28 : ∀ w ∈ wsL_law_r28, w ∈ lw_tbl := zz_in [594, 595, 596, 597, 598, 599, 955, 956, 957, 958, 600, 601, 602, 603, 604, 605, 606, 959, 960, 961, 962, 607, 608, 609] (by decide +kernel)
set_option maxRecDepth 20000 in
theorem zi_wsL_law_r29 : ∀ w ∈ wsL_law_r29, w ∈ lw_tbl := zz_in [610, 611, 612, 613, 614, 618, 615, 616, 617, 963, 964, 965, 966, 970, 967, 968, 969, 971, 972, 973, 619, 620, 621, 622] (by decide +kernel)
set_option maxRecDepth 20000 in
theorem zi_wsL_law_r30 : ∀ w ∈ wsL_law_r30, w ∈ lw_tbl := zz_in [974, 975, 976, 977, 623, 624, 625, 626, 627, 628, 629, 630, 244, 631, 633, 5, 634, 245, 247, 635, 636, 638, 6, 639] (by decide +kernel)
set_option maxRecDepth 20000 in
theorem zi_wsL_law_r31 : ∀ w ∈ wsL_law_r31, w ∈ lw_tbl := zz_in [246, 640, 642, 7, 643, 644, 646, 8, 647, 648, 650, 9, 651, 652, 978, 979, 980, 981, 982, 984, 39, 985, 707, 986] (by decide +kernel)
set_option maxRecDepth 20000 in
theorem zi_wsL_law_r32 : ∀ w ∈ wsL_law_r32, w ∈ lw_tbl := zz_in [988, 40, 989, 708, 710, 709, 990, 992, 41, 993, 994, 996, 42, 997, 998, 1000, 43, 1001, 1002, 1004, 44, 1005, 1006, 1008] (by decide +kernel)
set_option maxRecDepth 20000 in
theorem zi_wsL_law_r33 : ∀ w ∈ wsL_law_r33, w ∈ lw_tbl := zz_in [45, 1009, 653, 654, 655, 656, 657, 658, 659, 660, 661, 663, 10, 664, 665, 666, 667, 668, 669, 670, 671, 1010, 1011, 1012] (by decide +kernel)
set_option maxRecDepth 20000 in
theorem zi_wsL_law_r34 : ∀ w ∈ wsL_law_r34, w ∈ lw_tbl := zz_in [1013, 1014, 1016, 46, 1017, 672, 673, 674, 675, 676, 677, 678, 679, 736, 737, 738, 739, 680, 681, 682, 683, 684, 740, 741] (by decide +kernel)
set_option maxRecDepth 20000 in
theorem zi_wsL_law_r35 : ∀ w ∈ wsL_law_r35, w ∈ lw_tbl := zz_in [742, 743, 744, 745, 746, 685, 686, 687, 688, 750, 751, 752, 753] (by decide +kernel)
set_option maxRecDepth 20000 in
theorem zi_wsX70 : ∀ w ∈ wsX70, w ∈ lw_tbl := zz_in [264, 266, 268, 270, 272] (by decide +kernel)
set_option maxRecDepth 20000 in
theorem zi_wsX80 : ∀ w ∈ wsX80, w ∈ lw_tbl := zz_in [711, 713, 715, 717, 719, 721, 723, 725, 727, 729, 731, 733] (by decide +kernel)
set_option maxRecDepth 20000 in
theorem zi_wsX20 : ∀ w ∈ wsX20, w ∈ lw_tbl := zz_in [182, 184, 186, 188, 190, 192, 194, 196, 198, 200, 202] (by decide +kernel)
set_option maxRecDepth 20000 in
theorem zi_wsX10 : ∀ w ∈ wsX10, w ∈ lw_tbl := zz_in [217, 219, 221] (by decide +kernel)
set_option maxRecDepth 20000 in
theorem zi_wsX40 : ∀ w ∈ wsX40, w ∈ lw_tbl := zz_in [232, 234] (by decide +kernel)
set_option maxRecDepth 20000 in
theorem zi_wsX30 : ∀ w ∈ wsX30, w ∈ lw_tbl := zz_in [248, 250, 252, 254, 256] (by decide +kernel)
set_option maxRecDepth 20000 in
theorem zi_wsX50 : ∀ w ∈ wsX50, w ∈ lw_tbl := zz_in [83] (by decide +kernel)
set_option maxRecDepth 20000 in
theorem zi_wsX60 : ∀ w ∈ wsX60, w ∈ lw_tbl := zz_in [112, 114, 116, 118, 120, 122, 124, 126] (by decide +kernel)
set_option maxRecDepth 20000 in
theorem zi_wsX00 : ∀ w ∈ wsX00, w ∈ lw_tbl := zz_in [148, 150, 152, 154, 156, 158] (by decide +kernel)
set_option maxRecDepth 20000 in
theorem wsL_law_in : ∀ w ∈ wsL_law, w ∈ lw_tbl := zz_app (zz_app (zz_app (zz_app (zz_app (zz_app (zz_app (zz_app (zz_app (zz_app ((zz_app zi_wsL_law_r1 (zz_app zi_wsL_law_r2 (zz_app zi_wsL_law_r3 (zz_app zi_wsL_law_r4 (zz_app zi_wsL_law_r5 (zz_app zi_wsL_law_r6 (zz_app zi_wsL_law_r7 (zz_app zi_wsL_law_r8 (zz_app zi_wsL_law_r9 (zz_app zi_wsL_law_r10 (zz_app zi_wsL_law_r11 (zz_app zi_wsL_law_r12 (zz_app zi_wsL_law_r13 (zz_app zi_wsL_law_r14 (zz_app zi_wsL_law_r15 (zz_app zi_wsL_law_r16 (zz_app zi_wsL_law_r17 (zz_app zi_wsL_law_r18 (zz_app zi_wsL_law_r19 (zz_app zi_wsL_law_r20 (zz_app zi_wsL_law_r21 (zz_app zi_wsL_law_r22 (zz_app zi_wsL_law_r23 (zz_app zi_wsL_law_r24 (zz_app zi_wsL_law_r25 (zz_app zi_wsL_law_r26 (zz_app zi_wsL_law_r27 (zz_app zi_wsL_law_r28 (zz_app zi_wsL_law_r29 (zz_app zi_wsL_law_r30 (zz_app zi_wsL_law_r31 (zz_app zi_wsL_law_r32 (zz_app zi_wsL_law_r33 (zz_app zi_wsL_law_r34 (zi_wsL_law_r35)))))))))))))))))))))))))))))))))))) zi_wsX70) zi_wsX80) zi_wsX20) zi_wsX10) zi_wsX40) zi_wsX30) zi_wsX50) zi_wsX60) zi_wsX00) (fun _ h => absurd h List.not_mem_nil)
theorem inlX0 : ∀ w ∈ wsX00, w ∈ wsL_law := fun _ h => List.mem_append_left _ (List.mem_append_right _ h)
theorem inX0 : ∀ w ∈ wsX00, w ∈ lw_tbl := fun w h => wsL_law_in w (inlX0 w h)
theorem inlX1 : ∀ w ∈ wsX10, w ∈ wsL_law := fun _ h => List.mem_append_left _ (List.mem_append_left _ (List.mem_append_left _ (List.mem_append_left _ (List.mem_append_left _ (List.mem_append_left _ (List.mem_append_right _ h))))))
theorem inX1 : ∀ w ∈ wsX10, w ∈ lw_tbl := fun w h => wsL_law_in w (inlX1 w h)
theorem inlX2 : ∀ w ∈ wsX20, w ∈ wsL_law := fun _ h => List.mem_append_left _ (List.mem_append_left _ (List.mem_append_left _ (List.mem_append_left _ (List.mem_append_left _ (List.mem_append_left _ (List.mem_append_left _ (List.mem_append_right _ h)))))))
theorem inX2 : ∀ w ∈ wsX20, w ∈ lw_tbl := fun w h => wsL_law_in w (inlX2 w h)
theorem inlX3 : ∀ w ∈ wsX30, w ∈ wsL_law := fun _ h => List.mem_append_left _ (List.mem_append_left _ (List.mem_append_left _ (List.mem_append_left _ (List.mem_append_right _ h))))
theorem inX3 : ∀ w ∈ wsX30, w ∈ lw_tbl := fun w h => wsL_law_in w (inlX3 w h)
theorem inlX4 : ∀ w ∈ wsX40, w ∈ wsL_law := fun _ h => List.mem_append_left _ (List.mem_append_left _ (List.mem_append_left _ (List.mem_append_left _ (List.mem_append_left _ (List.mem_append_right _ h)))))
theorem inX4 : ∀ w ∈ wsX40, w ∈ lw_tbl := fun w h => wsL_law_in w (inlX4 w h)
theorem inlX5 : ∀ w ∈ wsX50, w ∈ wsL_law := fun _ h => List.mem_append_left _ (List.mem_append_left _ (List.mem_append_left _ (List.mem_append_right _ h)))
theorem inX5 : ∀ w ∈ wsX50, w ∈ lw_tbl := fun w h => wsL_law_in w (inlX5 w h)
theorem inlX6 : ∀ w ∈ wsX60, w ∈ wsL_law := fun _ h => List.mem_append_left _ (List.mem_append_left _ (List.mem_append_right _ h))
theorem inX6 : ∀ w ∈ wsX60, w ∈ lw_tbl := fun w h => wsL_law_in w (inlX6 w h)
theorem inlX7 : ∀ w ∈ wsX70, w ∈ wsL_law := fun _ h => List.mem_append_left _ (List.mem_append_left _ (List.mem_append_left _ (List.mem_append_left _ (List.mem_append_left _ (List.mem_append_left _ (List.mem_append_left _ (List.mem_append_left _ (List.mem_append_left _ (List.mem_append_right _ h)))))))))
theorem inX7 : ∀ w ∈ wsX70, w ∈ lw_tbl := fun w h => wsL_law_in w (inlX7 w h)
theorem inlX8 : ∀ w ∈ wsX80, w ∈ wsL_law := fun _ h => List.mem_append_left _ (List.mem_append_left _ (List.mem_append_left _ (List.mem_append_left _ (List.mem_append_left _ (List.mem_append_left _ (List.mem_append_left _ (List.mem_append_left _ (List.mem_append_right _ h))))))))
theorem inX8 : ∀ w ∈ wsX80, w ∈ lw_tbl := fun w h => wsL_law_in w (inlX8 w h)
theorem inJ9 : ∀ w ∈ wsJ90, w ∈ lw_tbl := by decide +kernel
theorem inJ10 : ∀ w ∈ wsJ100, w ∈ lw_tbl := by decide +kernel
abbrev vwCl : List vw_C := [(RX0, TX0, 6), (RX1, TX1, 3), (RX2, TX2, 11), (RX3, TX3, 5), (RX4, TX4, 2), (RX5, TX5, 1), (RX6, TX6, 8), (RX7, TX7, 5), (RX8, TX8, 12)]
end
section
set_option maxRecDepth 20000 in
theorem ggX0_init_X5_init : GoodIn wsX0_init wsX5_init := goodIn_r _ [14, 15, 2, 3, 16, 17, 18, 19, 20, 21, 22] (by decide +kernel) (by decide +kernel)
set_option maxRecDepth 20000 in
theorem gX0_init_X5_init : GoodIn wsX0_init (wsX5_init) := ggX0_init_X5_init
theorem dX0_init_0 : decode cX0_init 0 = .ok (.aload_n 0, 1) := by decide +kernel
theorem dX0_init_1 : decode cX0_init 1 = .ok (.invokespecial 3, 3) := by decide +kernel
theorem dX0_init_4 : decode cX0_init 4 = .ok (.aload_n 0, 1) := by decide +kernel
theorem dX0_init_5 : decode cX0_init 5 = .ok (.new 9, 3) := by decide +kernel
theorem dX0_init_8 : decode cX0_init 8 = .ok (.dup, 1) := by decide +kernel
theorem dX0_init_9 : decode cX0_init 9 = .ok (.bipush 8, 2) := by decide +kernel
theorem dX0_init_11 : decode cX0_init 11 = .ok (.invokespecial 11, 3) := by decide +kernel
theorem dX0_init_14 : decode cX0_init 14 = .ok (.putfield 14, 3) := by decide +kernel
theorem dX0_init_17 : decode cX0_init 17 = .ok (.aload_n 0, 1) := by decide +kernel
theorem dX0_init_18 : decode cX0_init 18 = .ok (.new 9, 3) := by decide +kernel
theorem dX0_init_21 : decode cX0_init 21 = .ok (.dup, 1) := by decide +kernel
theorem dX0_init_22 : decode cX0_init 22 = .ok (.bipush 8, 2) := by decide +kernel
theorem dX0_init_24 : decode cX0_init 24 = .ok (.invokespecial 11, 3) := by decide +kernel
theorem dX0_init_27 : decode cX0_init 27 = .ok (.putfield 20, 3) := by decide +kernel
theorem dX0_init_30 : decode cX0_init 30 = .ok (.aload_n 0, 1) := by decide +kernel
theorem dX0_init_31 : decode cX0_init 31 = .ok (.new 9, 3) := by decide +kernel
theorem dX0_init_34 : decode cX0_init 34 = .ok (.dup, 1) := by decide +kernel
theorem dX0_init_35 : decode cX0_init 35 = .ok (.bipush 6, 2) := by decide +kernel
theorem dX0_init_37 : decode cX0_init 37 = .ok (.invokespecial 11, 3) := by decide +kernel
theorem dX0_init_40 : decode cX0_init 40 = .ok (.putfield 23, 3) := by decide +kernel
theorem dX0_init_43 : decode cX0_init 43 = .ok (.aload_n 0, 1) := by decide +kernel
theorem dX0_init_44 : decode cX0_init 44 = .ok (.new 9, 3) := by decide +kernel
theorem dX0_init_47 : decode cX0_init 47 = .ok (.dup, 1) := by decide +kernel
theorem dX0_init_48 : decode cX0_init 48 = .ok (.bipush 6, 2) := by decide +kernel
theorem dX0_init_50 : decode cX0_init 50 = .ok (.invokespecial 11, 3) := by decide +kernel
theorem dX0_init_53 : decode cX0_init 53 = .ok (.putfield 26, 3) := by decide +kernel
theorem dX0_init_56 : decode cX0_init 56 = .ok (.aload_n 0, 1) := by decide +kernel
theorem dX0_init_57 : decode cX0_init 57 = .ok (.new 9, 3) := by decide +kernel
theorem dX0_init_60 : decode cX0_init 60 = .ok (.dup, 1) := by decide +kernel
theorem dX0_init_61 : decode cX0_init 61 = .ok (.bipush 6, 2) := by decide +kernel
theorem dX0_init_63 : decode cX0_init 63 = .ok (.invokespecial 11, 3) := by decide +kernel
theorem dX0_init_66 : decode cX0_init 66 = .ok (.putfield 29, 3) := by decide +kernel
theorem dX0_init_69 : decode cX0_init 69 = .ok (.return_, 1) := by decide +kernel
set_option maxRecDepth 20000 in
theorem ggX0_copyFrom_X5_copyFrom : GoodIn wsX0_copyFrom wsX5_copyFrom := goodIn_r _ [11, 12, 13, 14, 15, 16, 17, 18, 19, 20, 27] (by decide +kernel) (by decide +kernel)
set_option maxRecDepth 20000 in
theorem gX0_copyFrom_X5_copyFrom : GoodIn wsX0_copyFrom (wsV RX0 32 RX5 yX5_copyFrom wsX5_copyFrom) := goodIn_app (goodIn_of _ (by decide +kernel)) ggX0_copyFrom_X5_copyFrom
theorem dX0_copyFrom_0 : decode cX0_copyFrom 0 = .ok (.aload_n 0, 1) := by decide +kernel
theorem dX0_copyFrom_1 : decode cX0_copyFrom 1 = .ok (.getfield 14, 3) := by decide +kernel
theorem dX0_copyFrom_4 : decode cX0_copyFrom 4 = .ok (.aload_n 1, 1) := by decide +kernel
theorem dX0_copyFrom_5 : decode cX0_copyFrom 5 = .ok (.getfield 14, 3) := by decide +kernel
theorem dX0_copyFrom_8 : decode cX0_copyFrom 8 = .ok (.invokevirtual 32, 3) := by decide +kernel
theorem dX0_copyFrom_11 : decode cX0_copyFrom 11 = .ok (.aload_n 0, 1) := by decide +kernel
theorem dX0_copyFrom_12 : decode cX0_copyFrom 12 = .ok (.getfield 20, 3) := by decide +kernel
theorem dX0_copyFrom_15 : decode cX0_copyFrom 15 = .ok (.aload_n 1, 1) := by decide +kernel
theorem dX0_copyFrom_16 : decode cX0_copyFrom 16 = .ok (.getfield 20, 3) := by decide +kernel
theorem dX0_copyFrom_19 : decode cX0_copyFrom 19 = .ok (.invokevirtual 32, 3) := by decide +kernel
theorem dX0_copyFrom_22 : decode cX0_copyFrom 22 = .ok (.aload_n 0, 1) := by decide +kernel
theorem dX0_copyFrom_23 : decode cX0_copyFrom 23 = .ok (.getfield 23, 3) := by decide +kernel
theorem dX0_copyFrom_26 : decode cX0_copyFrom 26 = .ok (.aload_n 1, 1) := by decide +kernel
theorem dX0_copyFrom_27 : decode cX0_copyFrom 27 = .ok (.getfield 23, 3) := by decide +kernel
theorem dX0_copyFrom_30 : decode cX0_copyFrom 30 = .ok (.invokevirtual 32, 3) := by decide +kernel
theorem dX0_copyFrom_33 : decode cX0_copyFrom 33 = .ok (.aload_n 0, 1) := by decide +kernel
theorem dX0_copyFrom_34 : decode cX0_copyFrom 34 = .ok (.getfield 26, 3) := by decide +kernel
theorem dX0_copyFrom_37 : decode cX0_copyFrom 37 = .ok (.aload_n 1, 1) := by decide +kernel
theorem dX0_copyFrom_38 : decode cX0_copyFrom 38 = .ok (.getfield 26, 3) := by decide +kernel
theorem dX0_copyFrom_41 : decode cX0_copyFrom 41 = .ok (.invokevirtual 32, 3) := by decide +kernel
theorem dX0_copyFrom_44 : decode cX0_copyFrom 44 = .ok (.aload_n 0, 1) := by decide +kernel
theorem dX0_copyFrom_45 : decode cX0_copyFrom 45 = .ok (.getfield 29, 3) := by decide +kernel
theorem dX0_copyFrom_48 : decode cX0_copyFrom 48 = .ok (.aload_n 1, 1) := by decide +kernel
theorem dX0_copyFrom_49 : decode cX0_copyFrom 49 = .ok (.getfield 29, 3) := by decide +kernel
theorem dX0_copyFrom_52 : decode cX0_copyFrom 52 = .ok (.invokevirtual 32, 3) := by decide +kernel
theorem dX0_copyFrom_55 : decode cX0_copyFrom 55 = .ok (.aload_n 0, 1) := by decide +kernel
theorem dX0_copyFrom_56 : decode cX0_copyFrom 56 = .ok (.aload_n 1, 1) := by decide +kernel
theorem dX0_copyFrom_57 : decode cX0_copyFrom 57 = .ok (.getfield 36, 3) := by decide +kernel
theorem dX0_copyFrom_60 : decode cX0_copyFrom 60 = .ok (.putfield 36, 3) := by decide +kernel
theorem dX0_copyFrom_63 : decode cX0_copyFrom 63 = .ok (.return_, 1) := by decide +kernel
set_option maxRecDepth 20000 in
theorem ggX0_owe_X5_add : GoodIn wsX0_owe wsX5_add := goodIn_r _ [9, 10, 21] (by decide +kernel) (by decide +kernel)
set_option maxRecDepth 20000 in
theorem gX0_owe_X5_add : GoodIn wsX0_owe (wsV RX0 40 RX5 yX5_add wsX5_add) := goodIn_app (goodIn_of _ (by decide +kernel)) ggX0_owe_X5_add
set_option maxRecDepth 20000 in
theorem ggX0_owe_X5_store : GoodIn wsX0_owe wsX5_store := goodIn_r _ [14, 10, 21] (by decide +kernel) (by decide +kernel)
set_option maxRecDepth 20000 in
theorem gX0_owe_X5_store : GoodIn wsX0_owe (wsV RX0 44 RX5 yX5_store wsX5_store) := goodIn_app (goodIn_of _ (by decide +kernel)) ggX0_owe_X5_store
theorem dX0_owe_0 : decode cX0_owe 0 = .ok (.aload_n 0, 1) := by decide +kernel
theorem dX0_owe_1 : decode cX0_owe 1 = .ok (.getfield 36, 3) := by decide +kernel
theorem dX0_owe_4 : decode cX0_owe 4 = .ok (.bipush 8, 2) := by decide +kernel
theorem dX0_owe_6 : decode cX0_owe 6 = .ok (.if_icmp .lt 14, 3) := by decide +kernel
theorem dX0_owe_9 : decode cX0_owe 9 = .ok (.aload_n 0, 1) := by decide +kernel
theorem dX0_owe_10 : decode cX0_owe 10 = .ok (.getfield 26, 3) := by decide +kernel
theorem dX0_owe_13 : decode cX0_owe 13 = .ok (.iload_n 1, 1) := by decide +kernel
theorem dX0_owe_14 : decode cX0_owe 14 = .ok (.iconst 1, 1) := by decide +kernel
theorem dX0_owe_15 : decode cX0_owe 15 = .ok (.invokevirtual 40, 3) := by decide +kernel
theorem dX0_owe_18 : decode cX0_owe 18 = .ok (.iconst 0, 1) := by decide +kernel
theorem dX0_owe_19 : decode cX0_owe 19 = .ok (.ireturn, 1) := by decide +kernel
theorem dX0_owe_20 : decode cX0_owe 20 = .ok (.aload_n 0, 1) := by decide +kernel
theorem dX0_owe_21 : decode cX0_owe 21 = .ok (.getfield 14, 3) := by decide +kernel
theorem dX0_owe_24 : decode cX0_owe 24 = .ok (.aload_n 0, 1) := by decide +kernel
theorem dX0_owe_25 : decode cX0_owe 25 = .ok (.getfield 36, 3) := by decide +kernel
theorem dX0_owe_28 : decode cX0_owe 28 = .ok (.iload_n 1, 1) := by decide +kernel
theorem dX0_owe_29 : decode cX0_owe 29 = .ok (.invokevirtual 44, 3) := by decide +kernel
theorem dX0_owe_32 : decode cX0_owe 32 = .ok (.aload_n 0, 1) := by decide +kernel
theorem dX0_owe_33 : decode cX0_owe 33 = .ok (.getfield 20, 3) := by decide +kernel
theorem dX0_owe_36 : decode cX0_owe 36 = .ok (.aload_n 0, 1) := by decide +kernel
theorem dX0_owe_37 : decode cX0_owe 37 = .ok (.getfield 36, 3) := by decide +kernel
theorem dX0_owe_40 : decode cX0_owe 40 = .ok (.iload_n 2, 1) := by decide +kernel
theorem dX0_owe_41 : decode cX0_owe 41 = .ok (.invokevirtual 44, 3) := by decide +kernel
theorem dX0_owe_44 : decode cX0_owe 44 = .ok (.aload_n 0, 1) := by decide +kernel
theorem dX0_owe_45 : decode cX0_owe 45 = .ok (.dup, 1) := by decide +kernel
theorem dX0_owe_46 : decode cX0_owe 46 = .ok (.getfield 36, 3) := by decide +kernel
theorem dX0_owe_49 : decode cX0_owe 49 = .ok (.iconst 1, 1) := by decide +kernel
theorem dX0_owe_50 : decode cX0_owe 50 = .ok (.iadd, 1) := by decide +kernel
theorem dX0_owe_51 : decode cX0_owe 51 = .ok (.putfield 36, 3) := by decide +kernel
theorem dX0_owe_54 : decode cX0_owe 54 = .ok (.iconst 1, 1) := by decide +kernel
theorem dX0_owe_55 : decode cX0_owe 55 = .ok (.ireturn, 1) := by decide +kernel
set_option maxRecDepth 20000 in
theorem ggX0_lapseSince_X5_at : GoodIn wsX0_lapseSince wsX5_at := goodIn_r _ [9, 10, 25] (by decide +kernel) (by decide +kernel)
set_option maxRecDepth 20000 in
theorem gX0_lapseSince_X5_at : GoodIn wsX0_lapseSince (wsV RX0 47 RX5 yX5_at wsX5_at) := goodIn_app (goodIn_of _ (by decide +kernel)) ggX0_lapseSince_X5_at
set_option maxRecDepth 20000 in
theorem ggX0_lapseSince_X5_add : GoodIn wsX0_lapseSince wsX5_add := goodIn_r _ [14, 10, 25] (by decide +kernel) (by decide +kernel)
set_option maxRecDepth 20000 in
theorem gX0_lapseSince_X5_add : GoodIn wsX0_lapseSince (wsV RX0 40 RX5 yX5_add wsX5_add) := goodIn_app (goodIn_of _ (by decide +kernel)) ggX0_lapseSince_X5_add
set_option maxRecDepth 20000 in
theorem ggX0_lapseSince_X5_store : GoodIn wsX0_lapseSince wsX5_store := goodIn_r _ [18, 10, 25] (by decide +kernel) (by decide +kernel)
set_option maxRecDepth 20000 in
theorem gX0_lapseSince_X5_store : GoodIn wsX0_lapseSince (wsV RX0 44 RX5 yX5_store wsX5_store) := goodIn_app (goodIn_of _ (by decide +kernel)) ggX0_lapseSince_X5_store
theorem dX0_lapseSince_0 : decode cX0_lapseSince 0 = .ok (.iconst 0, 1) := by decide +kernel
theorem dX0_lapseSince_1 : decode cX0_lapseSince 1 = .ok (.istore_n 2, 1) := by decide +kernel
theorem dX0_lapseSince_2 : decode cX0_lapseSince 2 = .ok (.iconst 0, 1) := by decide +kernel
theorem dX0_lapseSince_3 : decode cX0_lapseSince 3 = .ok (.istore_n 3, 1) := by decide +kernel
theorem dX0_lapseSince_4 : decode cX0_lapseSince 4 = .ok (.iload_n 3, 1) := by decide +kernel
theorem dX0_lapseSince_5 : decode cX0_lapseSince 5 = .ok (.aload_n 0, 1) := by decide +kernel
theorem dX0_lapseSince_6 : decode cX0_lapseSince 6 = .ok (.getfield 36, 3) := by decide +kernel
theorem dX0_lapseSince_9 : decode cX0_lapseSince 9 = .ok (.if_icmp .ge 75, 3) := by decide +kernel
theorem dX0_lapseSince_12 : decode cX0_lapseSince 12 = .ok (.aload_n 0, 1) := by decide +kernel
theorem dX0_lapseSince_13 : decode cX0_lapseSince 13 = .ok (.getfield 20, 3) := by decide +kernel
theorem dX0_lapseSince_16 : decode cX0_lapseSince 16 = .ok (.iload_n 3, 1) := by decide +kernel
theorem dX0_lapseSince_17 : decode cX0_lapseSince 17 = .ok (.invokevirtual 47, 3) := by decide +kernel
theorem dX0_lapseSince_20 : decode cX0_lapseSince 20 = .ok (.iload_n 1, 1) := by decide +kernel
theorem dX0_lapseSince_21 : decode cX0_lapseSince 21 = .ok (.if_icmp .gt 22, 3) := by decide +kernel
theorem dX0_lapseSince_24 : decode cX0_lapseSince 24 = .ok (.aload_n 0, 1) := by decide +kernel
theorem dX0_lapseSince_25 : decode cX0_lapseSince 25 = .ok (.getfield 26, 3) := by decide +kernel
theorem dX0_lapseSince_28 : decode cX0_lapseSince 28 = .ok (.aload_n 0, 1) := by decide +kernel
theorem dX0_lapseSince_29 : decode cX0_lapseSince 29 = .ok (.getfield 14, 3) := by decide +kernel
theorem dX0_lapseSince_32 : decode cX0_lapseSince 32 = .ok (.iload_n 3, 1) := by decide +kernel
theorem dX0_lapseSince_33 : decode cX0_lapseSince 33 = .ok (.invokevirtual 47, 3) := by decide +kernel
theorem dX0_lapseSince_36 : decode cX0_lapseSince 36 = .ok (.iconst 1, 1) := by decide +kernel
theorem dX0_lapseSince_37 : decode cX0_lapseSince 37 = .ok (.invokevirtual 40, 3) := by decide +kernel
theorem dX0_lapseSince_40 : decode cX0_lapseSince 40 = .ok (.goto 38, 3) := by decide +kernel
theorem dX0_lapseSince_43 : decode cX0_lapseSince 43 = .ok (.aload_n 0, 1) := by decide +kernel
theorem dX0_lapseSince_44 : decode cX0_lapseSince 44 = .ok (.getfield 14, 3) := by decide +kernel
theorem dX0_lapseSince_47 : decode cX0_lapseSince 47 = .ok (.iload_n 2, 1) := by decide +kernel
theorem dX0_lapseSince_48 : decode cX0_lapseSince 48 = .ok (.aload_n 0, 1) := by decide +kernel
theorem dX0_lapseSince_49 : decode cX0_lapseSince 49 = .ok (.getfield 14, 3) := by decide +kernel
theorem dX0_lapseSince_52 : decode cX0_lapseSince 52 = .ok (.iload_n 3, 1) := by decide +kernel
theorem dX0_lapseSince_53 : decode cX0_lapseSince 53 = .ok (.invokevirtual 47, 3) := by decide +kernel
theorem dX0_lapseSince_56 : decode cX0_lapseSince 56 = .ok (.invokevirtual 44, 3) := by decide +kernel
theorem dX0_lapseSince_59 : decode cX0_lapseSince 59 = .ok (.aload_n 0, 1) := by decide +kernel
theorem dX0_lapseSince_60 : decode cX0_lapseSince 60 = .ok (.getfield 20, 3) := by decide +kernel
theorem dX0_lapseSince_63 : decode cX0_lapseSince 63 = .ok (.iload_n 2, 1) := by decide +kernel
theorem dX0_lapseSince_64 : decode cX0_lapseSince 64 = .ok (.aload_n 0, 1) := by decide +kernel
theorem dX0_lapseSince_65 : decode cX0_lapseSince 65 = .ok (.getfield 20, 3) := by decide +kernel
theorem dX0_lapseSince_68 : decode cX0_lapseSince 68 = .ok (.iload_n 3, 1) := by decide +kernel
theorem dX0_lapseSince_69 : decode cX0_lapseSince 69 = .ok (.invokevirtual 47, 3) := by decide +kernel
theorem dX0_lapseSince_72 : decode cX0_lapseSince 72 = .ok (.invokevirtual 44, 3) := by decide +kernel
theorem dX0_lapseSince_75 : decode cX0_lapseSince 75 = .ok (.iinc 2 1, 3) := by decide +kernel
theorem dX0_lapseSince_78 : decode cX0_lapseSince 78 = .ok (.iinc 3 1, 3) := by decide +kernel
theorem dX0_lapseSince_81 : decode cX0_lapseSince 81 = .ok (.goto (-77), 3) := by decide +kernel
theorem dX0_lapseSince_84 : decode cX0_lapseSince 84 = .ok (.aload_n 0, 1) := by decide +kernel
theorem dX0_lapseSince_85 : decode cX0_lapseSince 85 = .ok (.getfield 36, 3) := by decide +kernel
theorem dX0_lapseSince_88 : decode cX0_lapseSince 88 = .ok (.iload_n 2, 1) := by decide +kernel
theorem dX0_lapseSince_89 : decode cX0_lapseSince 89 = .ok (.isub, 1) := by decide +kernel
theorem dX0_lapseSince_90 : decode cX0_lapseSince 90 = .ok (.istore_n 3, 1) := by decide +kernel
theorem dX0_lapseSince_91 : decode cX0_lapseSince 91 = .ok (.aload_n 0, 1) := by decide +kernel
theorem dX0_lapseSince_92 : decode cX0_lapseSince 92 = .ok (.iload_n 2, 1) := by decide +kernel
theorem dX0_lapseSince_93 : decode cX0_lapseSince 93 = .ok (.putfield 36, 3) := by decide +kernel
theorem dX0_lapseSince_96 : decode cX0_lapseSince 96 = .ok (.iload_n 3, 1) := by decide +kernel
theorem dX0_lapseSince_97 : decode cX0_lapseSince 97 = .ok (.ireturn, 1) := by decide +kernel
set_option maxRecDepth 20000 in
theorem ggX0_earliestOf_X5_at : GoodIn wsX0_earliestOf wsX5_at := goodIn_r _ [7, 8, 15] (by decide +kernel) (by decide +kernel)
set_option maxRecDepth 20000 in
theorem gX0_earliestOf_X5_at : GoodIn wsX0_earliestOf (wsV RX0 47 RX5 yX5_at wsX5_at) := goodIn_app (goodIn_of _ (by decide +kernel)) ggX0_earliestOf_X5_at
theorem dX0_earliestOf_0 : decode cX0_earliestOf 0 = .ok (.iconst 0, 1) := by decide +kernel
theorem dX0_earliestOf_1 : decode cX0_earliestOf 1 = .ok (.istore_n 2, 1) := by decide +kernel
theorem dX0_earliestOf_2 : decode cX0_earliestOf 2 = .ok (.iload_n 2, 1) := by decide +kernel
theorem dX0_earliestOf_3 : decode cX0_earliestOf 3 = .ok (.aload_n 0, 1) := by decide +kernel
theorem dX0_earliestOf_4 : decode cX0_earliestOf 4 = .ok (.getfield 36, 3) := by decide +kernel
theorem dX0_earliestOf_7 : decode cX0_earliestOf 7 = .ok (.if_icmp .ge 23, 3) := by decide +kernel
theorem dX0_earliestOf_10 : decode cX0_earliestOf 10 = .ok (.aload_n 0, 1) := by decide +kernel
theorem dX0_earliestOf_11 : decode cX0_earliestOf 11 = .ok (.getfield 14, 3) := by decide +kernel
theorem dX0_earliestOf_14 : decode cX0_earliestOf 14 = .ok (.iload_n 2, 1) := by decide +kernel
theorem dX0_earliestOf_15 : decode cX0_earliestOf 15 = .ok (.invokevirtual 47, 3) := by decide +kernel
theorem dX0_earliestOf_18 : decode cX0_earliestOf 18 = .ok (.iload_n 1, 1) := by decide +kernel
theorem dX0_earliestOf_19 : decode cX0_earliestOf 19 = .ok (.if_icmp .ne 5, 3) := by decide +kernel
theorem dX0_earliestOf_22 : decode cX0_earliestOf 22 = .ok (.iload_n 2, 1) := by decide +kernel
theorem dX0_earliestOf_23 : decode cX0_earliestOf 23 = .ok (.ireturn, 1) := by decide +kernel
theorem dX0_earliestOf_24 : decode cX0_earliestOf 24 = .ok (.iinc 2 1, 3) := by decide +kernel
theorem dX0_earliestOf_27 : decode cX0_earliestOf 27 = .ok (.goto (-25), 3) := by decide +kernel
theorem dX0_earliestOf_30 : decode cX0_earliestOf 30 = .ok (.bipush (-6), 2) := by decide +kernel
theorem dX0_earliestOf_32 : decode cX0_earliestOf 32 = .ok (.ireturn, 1) := by decide +kernel
set_option maxRecDepth 20000 in
theorem ggX0_owedBy_X5_at : GoodIn wsX0_owedBy wsX5_at := goodIn_r _ [7, 8, 15] (by decide +kernel) (by decide +kernel)
set_option maxRecDepth 20000 in
theorem gX0_owedBy_X5_at : GoodIn wsX0_owedBy (wsV RX0 47 RX5 yX5_at wsX5_at) := goodIn_app (goodIn_of _ (by decide +kernel)) ggX0_owedBy_X5_at
theorem dX0_owedBy_0 : decode cX0_owedBy 0 = .ok (.iconst 0, 1) := by decide +kernel
theorem dX0_owedBy_1 : decode cX0_owedBy 1 = .ok (.istore_n 2, 1) := by decide +kernel
theorem dX0_owedBy_2 : decode cX0_owedBy 2 = .ok (.iconst 0, 1) := by decide +kernel
theorem dX0_owedBy_3 : decode cX0_owedBy 3 = .ok (.istore_n 3, 1) := by decide +kernel
theorem dX0_owedBy_4 : decode cX0_owedBy 4 = .ok (.iload_n 3, 1) := by decide +kernel
theorem dX0_owedBy_5 : decode cX0_owedBy 5 = .ok (.aload_n 0, 1) := by decide +kernel
theorem dX0_owedBy_6 : decode cX0_owedBy 6 = .ok (.getfield 36, 3) := by decide +kernel
theorem dX0_owedBy_9 : decode cX0_owedBy 9 = .ok (.if_icmp .ge 24, 3) := by decide +kernel
theorem dX0_owedBy_12 : decode cX0_owedBy 12 = .ok (.aload_n 0, 1) := by decide +kernel
theorem dX0_owedBy_13 : decode cX0_owedBy 13 = .ok (.getfield 14, 3) := by decide +kernel
theorem dX0_owedBy_16 : decode cX0_owedBy 16 = .ok (.iload_n 3, 1) := by decide +kernel
theorem dX0_owedBy_17 : decode cX0_owedBy 17 = .ok (.invokevirtual 47, 3) := by decide +kernel
theorem dX0_owedBy_20 : decode cX0_owedBy 20 = .ok (.iload_n 1, 1) := by decide +kernel
theorem dX0_owedBy_21 : decode cX0_owedBy 21 = .ok (.if_icmp .ne 6, 3) := by decide +kernel
theorem dX0_owedBy_24 : decode cX0_owedBy 24 = .ok (.iinc 2 1, 3) := by decide +kernel
theorem dX0_owedBy_27 : decode cX0_owedBy 27 = .ok (.iinc 3 1, 3) := by decide +kernel
theorem dX0_owedBy_30 : decode cX0_owedBy 30 = .ok (.goto (-26), 3) := by decide +kernel
theorem dX0_owedBy_33 : decode cX0_owedBy 33 = .ok (.iload_n 2, 1) := by decide +kernel
theorem dX0_owedBy_34 : decode cX0_owedBy 34 = .ok (.ireturn, 1) := by decide +kernel
set_option maxRecDepth 20000 in
theorem ggX0_playEarliestOf_X0_earliestOf : GoodIn wsX0_playEarliestOf wsX0_earliestOf := goodIn_r _ [9, 1, 2, 10, 11, 12, 13, 14, 15, 24, 25, 26, 27, 28, 29, 30] (by decide +kernel) (by decide +kernel)
set_option maxRecDepth 20000 in
theorem gX0_playEarliestOf_X0_earliestOf : GoodIn wsX0_playEarliestOf (wsV RX0 51 RX0 yX0_earliestOf wsX0_earliestOf) := goodIn_app (goodIn_of _ (by decide +kernel)) ggX0_playEarliestOf_X0_earliestOf
set_option maxRecDepth 20000 in
theorem ggX0_playEarliestOf_X5_at : GoodIn wsX0_playEarliestOf wsX5_at := goodIn_r _ [14, 15, 30] (by decide +kernel) (by decide +kernel)
set_option maxRecDepth 20000 in
theorem gX0_playEarliestOf_X5_at : GoodIn wsX0_playEarliestOf (wsV RX0 47 RX5 yX5_at wsX5_at) := goodIn_app (goodIn_of _ (by decide +kernel)) ggX0_playEarliestOf_X5_at
set_option maxRecDepth 20000 in
theorem ggX0_playEarliestOf_X5_store : GoodIn wsX0_playEarliestOf wsX5_store := goodIn_r _ [19, 15, 30] (by decide +kernel) (by decide +kernel)
set_option maxRecDepth 20000 in
theorem gX0_playEarliestOf_X5_store : GoodIn wsX0_playEarliestOf (wsV RX0 44 RX5 yX5_store wsX5_store) := goodIn_app (goodIn_of _ (by decide +kernel)) ggX0_playEarliestOf_X5_store
set_option maxRecDepth 20000 in
theorem ggX0_playEarliestOf_X5_add : GoodIn wsX0_playEarliestOf wsX5_add := goodIn_r _ [23, 15, 30] (by decide +kernel) (by decide +kernel)
set_option maxRecDepth 20000 in
theorem gX0_playEarliestOf_X5_add : GoodIn wsX0_playEarliestOf (wsV RX0 40 RX5 yX5_add wsX5_add) := goodIn_app (goodIn_of _ (by decide +kernel)) ggX0_playEarliestOf_X5_add
theorem dX0_playEarliestOf_0 : decode cX0_playEarliestOf 0 = .ok (.aload_n 0, 1) := by decide +kernel
theorem dX0_playEarliestOf_1 : decode cX0_playEarliestOf 1 = .ok (.iload_n 1, 1) := by decide +kernel
theorem dX0_playEarliestOf_2 : decode cX0_playEarliestOf 2 = .ok (.invokevirtual 51, 3) := by decide +kernel
theorem dX0_playEarliestOf_5 : decode cX0_playEarliestOf 5 = .ok (.istore_n 2, 1) := by decide +kernel
theorem dX0_playEarliestOf_6 : decode cX0_playEarliestOf 6 = .ok (.iload_n 2, 1) := by decide +kernel
theorem dX0_playEarliestOf_7 : decode cX0_playEarliestOf 7 = .ok (.bipush (-6), 2) := by decide +kernel
theorem dX0_playEarliestOf_9 : decode cX0_playEarliestOf 9 = .ok (.if_icmp .ne 5, 3) := by decide +kernel
theorem dX0_playEarliestOf_12 : decode cX0_playEarliestOf 12 = .ok (.iconst 0, 1) := by decide +kernel
theorem dX0_playEarliestOf_13 : decode cX0_playEarliestOf 13 = .ok (.ireturn, 1) := by decide +kernel
theorem dX0_playEarliestOf_14 : decode cX0_playEarliestOf 14 = .ok (.iload_n 2, 1) := by decide +kernel
theorem dX0_playEarliestOf_15 : decode cX0_playEarliestOf 15 = .ok (.iconst 1, 1) := by decide +kernel
theorem dX0_playEarliestOf_16 : decode cX0_playEarliestOf 16 = .ok (.iadd, 1) := by decide +kernel
theorem dX0_playEarliestOf_17 : decode cX0_playEarliestOf 17 = .ok (.istore_n 3, 1) := by decide +kernel
theorem dX0_playEarliestOf_18 : decode cX0_playEarliestOf 18 = .ok (.iload_n 3, 1) := by decide +kernel
theorem dX0_playEarliestOf_19 : decode cX0_playEarliestOf 19 = .ok (.aload_n 0, 1) := by decide +kernel
theorem dX0_playEarliestOf_20 : decode cX0_playEarliestOf 20 = .ok (.getfield 36, 3) := by decide +kernel
theorem dX0_playEarliestOf_23 : decode cX0_playEarliestOf 23 = .ok (.if_icmp .ge 45, 3) := by decide +kernel
theorem dX0_playEarliestOf_26 : decode cX0_playEarliestOf 26 = .ok (.aload_n 0, 1) := by decide +kernel
theorem dX0_playEarliestOf_27 : decode cX0_playEarliestOf 27 = .ok (.getfield 14, 3) := by decide +kernel
theorem dX0_playEarliestOf_30 : decode cX0_playEarliestOf 30 = .ok (.iload_n 3, 1) := by decide +kernel
theorem dX0_playEarliestOf_31 : decode cX0_playEarliestOf 31 = .ok (.iconst 1, 1) := by decide +kernel
theorem dX0_playEarliestOf_32 : decode cX0_playEarliestOf 32 = .ok (.isub, 1) := by decide +kernel
theorem dX0_playEarliestOf_33 : decode cX0_playEarliestOf 33 = .ok (.aload_n 0, 1) := by decide +kernel
theorem dX0_playEarliestOf_34 : decode cX0_playEarliestOf 34 = .ok (.getfield 14, 3) := by decide +kernel
theorem dX0_playEarliestOf_37 : decode cX0_playEarliestOf 37 = .ok (.iload_n 3, 1) := by decide +kernel
theorem dX0_playEarliestOf_38 : decode cX0_playEarliestOf 38 = .ok (.invokevirtual 47, 3) := by decide +kernel
theorem dX0_playEarliestOf_41 : decode cX0_playEarliestOf 41 = .ok (.invokevirtual 44, 3) := by decide +kernel
theorem dX0_playEarliestOf_44 : decode cX0_playEarliestOf 44 = .ok (.aload_n 0, 1) := by decide +kernel
theorem dX0_playEarliestOf_45 : decode cX0_playEarliestOf 45 = .ok (.getfield 20, 3) := by decide +kernel
theorem dX0_playEarliestOf_48 : decode cX0_playEarliestOf 48 = .ok (.iload_n 3, 1) := by decide +kernel
theorem dX0_playEarliestOf_49 : decode cX0_playEarliestOf 49 = .ok (.iconst 1, 1) := by decide +kernel
theorem dX0_playEarliestOf_50 : decode cX0_playEarliestOf 50 = .ok (.isub, 1) := by decide +kernel
theorem dX0_playEarliestOf_51 : decode cX0_playEarliestOf 51 = .ok (.aload_n 0, 1) := by decide +kernel
theorem dX0_playEarliestOf_52 : decode cX0_playEarliestOf 52 = .ok (.getfield 20, 3) := by decide +kernel
theorem dX0_playEarliestOf_55 : decode cX0_playEarliestOf 55 = .ok (.iload_n 3, 1) := by decide +kernel
theorem dX0_playEarliestOf_56 : decode cX0_playEarliestOf 56 = .ok (.invokevirtual 47, 3) := by decide +kernel
theorem dX0_playEarliestOf_59 : decode cX0_playEarliestOf 59 = .ok (.invokevirtual 44, 3) := by decide +kernel
theorem dX0_playEarliestOf_62 : decode cX0_playEarliestOf 62 = .ok (.iinc 3 1, 3) := by decide +kernel
theorem dX0_playEarliestOf_65 : decode cX0_playEarliestOf 65 = .ok (.goto (-47), 3) := by decide +kernel
theorem dX0_playEarliestOf_68 : decode cX0_playEarliestOf 68 = .ok (.aload_n 0, 1) := by decide +kernel
theorem dX0_playEarliestOf_69 : decode cX0_playEarliestOf 69 = .ok (.dup, 1) := by decide +kernel
theorem dX0_playEarliestOf_70 : decode cX0_playEarliestOf 70 = .ok (.getfield 36, 3) := by decide +kernel
theorem dX0_playEarliestOf_73 : decode cX0_playEarliestOf 73 = .ok (.iconst 1, 1) := by decide +kernel
theorem dX0_playEarliestOf_74 : decode cX0_playEarliestOf 74 = .ok (.isub, 1) := by decide +kernel
theorem dX0_playEarliestOf_75 : decode cX0_playEarliestOf 75 = .ok (.putfield 36, 3) := by decide +kernel
theorem dX0_playEarliestOf_78 : decode cX0_playEarliestOf 78 = .ok (.aload_n 0, 1) := by decide +kernel
theorem dX0_playEarliestOf_79 : decode cX0_playEarliestOf 79 = .ok (.getfield 23, 3) := by decide +kernel
theorem dX0_playEarliestOf_82 : decode cX0_playEarliestOf 82 = .ok (.iload_n 1, 1) := by decide +kernel
theorem dX0_playEarliestOf_83 : decode cX0_playEarliestOf 83 = .ok (.iconst 1, 1) := by decide +kernel
theorem dX0_playEarliestOf_84 : decode cX0_playEarliestOf 84 = .ok (.invokevirtual 40, 3) := by decide +kernel
theorem dX0_playEarliestOf_87 : decode cX0_playEarliestOf 87 = .ok (.iconst 1, 1) := by decide +kernel
theorem dX0_playEarliestOf_88 : decode cX0_playEarliestOf 88 = .ok (.ireturn, 1) := by decide +kernel
set_option maxRecDepth 20000 in
theorem ggX0_aboutPerformer_X7_isPerformer : GoodIn wsX0_aboutPerformer wsX7_isPerformer := goodIn_r _ [6] (by decide +kernel) (by decide +kernel)
set_option maxRecDepth 20000 in
theorem gX0_aboutPerformer_X7_isPerformer_n54 : GoodIn wsX0_aboutPerformer (wsX7_isPerformer) := ggX0_aboutPerformer_X7_isPerformer
set_option maxRecDepth 20000 in
theorem ggX0_aboutPerformer_X0_owedBy : GoodIn wsX0_aboutPerformer wsX0_owedBy := goodIn_r _ [11, 12, 13, 14, 15, 16, 17, 18, 19, 20, 21, 22, 23, 24, 25, 26] (by decide +kernel) (by decide +kernel)
set_option maxRecDepth 20000 in
theorem gX0_aboutPerformer_X0_owedBy : GoodIn wsX0_aboutPerformer (wsV RX0 58 RX0 yX0_owedBy wsX0_owedBy) := goodIn_app (goodIn_of _ (by decide +kernel)) ggX0_aboutPerformer_X0_owedBy
set_option maxRecDepth 20000 in
theorem ggX0_aboutPerformer_X5_at : GoodIn wsX0_aboutPerformer wsX5_at := goodIn_r _ [18, 19, 26] (by decide +kernel) (by decide +kernel)
set_option maxRecDepth 20000 in
theorem gX0_aboutPerformer_X5_at : GoodIn wsX0_aboutPerformer (wsV RX0 47 RX5 yX5_at wsX5_at) := goodIn_app (goodIn_of _ (by decide +kernel)) ggX0_aboutPerformer_X5_at
theorem dX0_aboutPerformer_0 : decode cX0_aboutPerformer 0 = .ok (.iload_n 1, 1) := by decide +kernel
theorem dX0_aboutPerformer_1 : decode cX0_aboutPerformer 1 = .ok (.invokestatic 54, 3) := by decide +kernel
theorem dX0_aboutPerformer_4 : decode cX0_aboutPerformer 4 = .ok (.ifCond .ne 5, 3) := by decide +kernel
theorem dX0_aboutPerformer_7 : decode cX0_aboutPerformer 7 = .ok (.iconst (-1), 1) := by decide +kernel
theorem dX0_aboutPerformer_8 : decode cX0_aboutPerformer 8 = .ok (.ireturn, 1) := by decide +kernel
theorem dX0_aboutPerformer_9 : decode cX0_aboutPerformer 9 = .ok (.iload_n 2, 1) := by decide +kernel
theorem dX0_aboutPerformer_10 : decode cX0_aboutPerformer 10 = .ok (.tableswitch 63 0 3 #[30, 36, 45, 54], 30) := by decide +kernel
theorem dX0_aboutPerformer_40 : decode cX0_aboutPerformer 40 = .ok (.aload_n 0, 1) := by decide +kernel
theorem dX0_aboutPerformer_41 : decode cX0_aboutPerformer 41 = .ok (.iload_n 1, 1) := by decide +kernel
theorem dX0_aboutPerformer_42 : decode cX0_aboutPerformer 42 = .ok (.invokevirtual 58, 3) := by decide +kernel
theorem dX0_aboutPerformer_45 : decode cX0_aboutPerformer 45 = .ok (.ireturn, 1) := by decide +kernel
theorem dX0_aboutPerformer_46 : decode cX0_aboutPerformer 46 = .ok (.aload_n 0, 1) := by decide +kernel
theorem dX0_aboutPerformer_47 : decode cX0_aboutPerformer 47 = .ok (.getfield 23, 3) := by decide +kernel
theorem dX0_aboutPerformer_50 : decode cX0_aboutPerformer 50 = .ok (.iload_n 1, 1) := by decide +kernel
theorem dX0_aboutPerformer_51 : decode cX0_aboutPerformer 51 = .ok (.invokevirtual 47, 3) := by decide +kernel
theorem dX0_aboutPerformer_54 : decode cX0_aboutPerformer 54 = .ok (.ireturn, 1) := by decide +kernel
theorem dX0_aboutPerformer_55 : decode cX0_aboutPerformer 55 = .ok (.aload_n 0, 1) := by decide +kernel
theorem dX0_aboutPerformer_56 : decode cX0_aboutPerformer 56 = .ok (.getfield 26, 3) := by decide +kernel
theorem dX0_aboutPerformer_59 : decode cX0_aboutPerformer 59 = .ok (.iload_n 1, 1) := by decide +kernel
theorem dX0_aboutPerformer_60 : decode cX0_aboutPerformer 60 = .ok (.invokevirtual 47, 3) := by decide +kernel
theorem dX0_aboutPerformer_63 : decode cX0_aboutPerformer 63 = .ok (.ireturn, 1) := by decide +kernel
theorem dX0_aboutPerformer_64 : decode cX0_aboutPerformer 64 = .ok (.aload_n 0, 1) := by decide +kernel
theorem dX0_aboutPerformer_65 : decode cX0_aboutPerformer 65 = .ok (.getfield 29, 3) := by decide +kernel
theorem dX0_aboutPerformer_68 : decode cX0_aboutPerformer 68 = .ok (.iload_n 1, 1) := by decide +kernel
theorem dX0_aboutPerformer_69 : decode cX0_aboutPerformer 69 = .ok (.invokevirtual 47, 3) := by decide +kernel
theorem dX0_aboutPerformer_72 : decode cX0_aboutPerformer 72 = .ok (.ireturn, 1) := by decide +kernel
theorem dX0_aboutPerformer_73 : decode cX0_aboutPerformer 73 = .ok (.bipush (-2), 2) := by decide +kernel
theorem dX0_aboutPerformer_75 : decode cX0_aboutPerformer 75 = .ok (.ireturn, 1) := by decide +kernel
set_option maxRecDepth 20000 in
theorem ggX0_aboutOwed_X5_at : GoodIn wsX0_aboutOwed wsX5_at := goodIn_r _ [8, 9, 16] (by decide +kernel) (by decide +kernel)
set_option maxRecDepth 20000 in
theorem gX0_aboutOwed_X5_at : GoodIn wsX0_aboutOwed (wsV RX0 47 RX5 yX5_at wsX5_at) := goodIn_app (goodIn_of _ (by decide +kernel)) ggX0_aboutOwed_X5_at
theorem dX0_aboutOwed_0 : decode cX0_aboutOwed 0 = .ok (.iload_n 1, 1) := by decide +kernel
theorem dX0_aboutOwed_1 : decode cX0_aboutOwed 1 = .ok (.ifCond .lt 11, 3) := by decide +kernel
theorem dX0_aboutOwed_4 : decode cX0_aboutOwed 4 = .ok (.iload_n 1, 1) := by decide +kernel
theorem dX0_aboutOwed_5 : decode cX0_aboutOwed 5 = .ok (.aload_n 0, 1) := by decide +kernel
theorem dX0_aboutOwed_6 : decode cX0_aboutOwed 6 = .ok (.getfield 36, 3) := by decide +kernel
theorem dX0_aboutOwed_9 : decode cX0_aboutOwed 9 = .ok (.if_icmp .lt 5, 3) := by decide +kernel
theorem dX0_aboutOwed_12 : decode cX0_aboutOwed 12 = .ok (.iconst (-1), 1) := by decide +kernel
theorem dX0_aboutOwed_13 : decode cX0_aboutOwed 13 = .ok (.ireturn, 1) := by decide +kernel
theorem dX0_aboutOwed_14 : decode cX0_aboutOwed 14 = .ok (.iload_n 2, 1) := by decide +kernel
theorem dX0_aboutOwed_15 : decode cX0_aboutOwed 15 = .ok (.lookupswitch 45 #[(0, 25), (1, 34)], 25) := by decide +kernel
theorem dX0_aboutOwed_40 : decode cX0_aboutOwed 40 = .ok (.aload_n 0, 1) := by decide +kernel
theorem dX0_aboutOwed_41 : decode cX0_aboutOwed 41 = .ok (.getfield 14, 3) := by decide +kernel
theorem dX0_aboutOwed_44 : decode cX0_aboutOwed 44 = .ok (.iload_n 1, 1) := by decide +kernel
theorem dX0_aboutOwed_45 : decode cX0_aboutOwed 45 = .ok (.invokevirtual 47, 3) := by decide +kernel
theorem dX0_aboutOwed_48 : decode cX0_aboutOwed 48 = .ok (.ireturn, 1) := by decide +kernel
theorem dX0_aboutOwed_49 : decode cX0_aboutOwed 49 = .ok (.iload_n 3, 1) := by decide +kernel
theorem dX0_aboutOwed_50 : decode cX0_aboutOwed 50 = .ok (.aload_n 0, 1) := by decide +kernel
theorem dX0_aboutOwed_51 : decode cX0_aboutOwed 51 = .ok (.getfield 20, 3) := by decide +kernel
theorem dX0_aboutOwed_54 : decode cX0_aboutOwed 54 = .ok (.iload_n 1, 1) := by decide +kernel
theorem dX0_aboutOwed_55 : decode cX0_aboutOwed 55 = .ok (.invokevirtual 47, 3) := by decide +kernel
theorem dX0_aboutOwed_58 : decode cX0_aboutOwed 58 = .ok (.isub, 1) := by decide +kernel
theorem dX0_aboutOwed_59 : decode cX0_aboutOwed 59 = .ok (.ireturn, 1) := by decide +kernel
theorem dX0_aboutOwed_60 : decode cX0_aboutOwed 60 = .ok (.bipush (-2), 2) := by decide +kernel
theorem dX0_aboutOwed_62 : decode cX0_aboutOwed 62 = .ok (.ireturn, 1) := by decide +kernel
set_option maxRecDepth 20000 in
theorem ggX1_init_X2_init : GoodIn wsX1_init wsX2_init := goodIn_r _ [10, 11, 2, 3, 12, 13, 14, 15, 16, 17, 18, 19, 20, 21, 22, 23, 24, 25, 26, 27, 28, 29, 30, 31, 32, 33, 34, 35, 36, 37, 38, 39, 40, 41, 42, 43, 44, 45, 46, 47, 48, 49, 50, 51, 52, 53, 54, 55, 56, 57, 58, 59, 60, 61, 62, 63, 64, 65, 80, 69, 70, 71, 72, 73, 74, 75, 76, 77, 78, 79, 81, 82, 83, 84, 85, 86, 87, 88, 89, 90, 91, 92, 93, 94] (by decide +kernel) (by decide +kernel)
set_option maxRecDepth 20000 in
theorem gX1_init_X2_init : GoodIn wsX1_init (wsX2_init) := ggX1_init_X2_init
theorem dX1_init_0 : decode cX1_init 0 = .ok (.aload_n 0, 1) := by decide +kernel
theorem dX1_init_1 : decode cX1_init 1 = .ok (.invokespecial 3, 3) := by decide +kernel
theorem dX1_init_4 : decode cX1_init 4 = .ok (.aload_n 0, 1) := by decide +kernel
theorem dX1_init_5 : decode cX1_init 5 = .ok (.bipush 7, 2) := by decide +kernel
theorem dX1_init_7 : decode cX1_init 7 = .ok (.anewarray 11, 3) := by decide +kernel
theorem dX1_init_10 : decode cX1_init 10 = .ok (.putfield 13, 3) := by decide +kernel
theorem dX1_init_13 : decode cX1_init 13 = .ok (.iconst 0, 1) := by decide +kernel
theorem dX1_init_14 : decode cX1_init 14 = .ok (.istore_n 1, 1) := by decide +kernel
theorem dX1_init_15 : decode cX1_init 15 = .ok (.iload_n 1, 1) := by decide +kernel
theorem dX1_init_16 : decode cX1_init 16 = .ok (.aload_n 0, 1) := by decide +kernel
theorem dX1_init_17 : decode cX1_init 17 = .ok (.getfield 13, 3) := by decide +kernel
theorem dX1_init_20 : decode cX1_init 20 = .ok (.arraylength, 1) := by decide +kernel
theorem dX1_init_21 : decode cX1_init 21 = .ok (.if_icmp .ge 22, 3) := by decide +kernel
theorem dX1_init_24 : decode cX1_init 24 = .ok (.aload_n 0, 1) := by decide +kernel
theorem dX1_init_25 : decode cX1_init 25 = .ok (.getfield 13, 3) := by decide +kernel
theorem dX1_init_28 : decode cX1_init 28 = .ok (.iload_n 1, 1) := by decide +kernel
theorem dX1_init_29 : decode cX1_init 29 = .ok (.new 11, 3) := by decide +kernel
theorem dX1_init_32 : decode cX1_init 32 = .ok (.dup, 1) := by decide +kernel
theorem dX1_init_33 : decode cX1_init 33 = .ok (.invokespecial 17, 3) := by decide +kernel
theorem dX1_init_36 : decode cX1_init 36 = .ok (.aastore, 1) := by decide +kernel
theorem dX1_init_37 : decode cX1_init 37 = .ok (.iinc 1 1, 3) := by decide +kernel
theorem dX1_init_40 : decode cX1_init 40 = .ok (.goto (-25), 3) := by decide +kernel
theorem dX1_init_43 : decode cX1_init 43 = .ok (.return_, 1) := by decide +kernel
theorem dX1_kept_0 : decode cX1_kept 0 = .ok (.aload_n 0, 1) := by decide +kernel
theorem dX1_kept_1 : decode cX1_kept 1 = .ok (.getfield 18, 3) := by decide +kernel
theorem dX1_kept_4 : decode cX1_kept 4 = .ok (.ireturn, 1) := by decide +kernel
theorem dX1_stateAt_0 : decode cX1_stateAt 0 = .ok (.iload_n 1, 1) := by decide +kernel
theorem dX1_stateAt_1 : decode cX1_stateAt 1 = .ok (.ifCond .lt 21, 3) := by decide +kernel
theorem dX1_stateAt_4 : decode cX1_stateAt 4 = .ok (.iload_n 1, 1) := by decide +kernel
theorem dX1_stateAt_5 : decode cX1_stateAt 5 = .ok (.aload_n 0, 1) := by decide +kernel
theorem dX1_stateAt_6 : decode cX1_stateAt 6 = .ok (.getfield 13, 3) := by decide +kernel
theorem dX1_stateAt_9 : decode cX1_stateAt 9 = .ok (.arraylength, 1) := by decide +kernel
theorem dX1_stateAt_10 : decode cX1_stateAt 10 = .ok (.if_icmp .ge 12, 3) := by decide +kernel
theorem dX1_stateAt_13 : decode cX1_stateAt 13 = .ok (.aload_n 0, 1) := by decide +kernel
theorem dX1_stateAt_14 : decode cX1_stateAt 14 = .ok (.getfield 13, 3) := by decide +kernel
theorem dX1_stateAt_17 : decode cX1_stateAt 17 = .ok (.iload_n 1, 1) := by decide +kernel
theorem dX1_stateAt_18 : decode cX1_stateAt 18 = .ok (.aaload, 1) := by decide +kernel
theorem dX1_stateAt_19 : decode cX1_stateAt 19 = .ok (.goto 4, 3) := by decide +kernel
theorem dX1_stateAt_22 : decode cX1_stateAt 22 = .ok (.aconst_null, 1) := by decide +kernel
theorem dX1_stateAt_23 : decode cX1_stateAt 23 = .ok (.areturn, 1) := by decide +kernel
set_option maxRecDepth 20000 in
theorem ggX1_setAside_X1_stateAt : GoodIn wsX1_setAside wsX1_stateAt := goodIn_r _ [6, 7, 64, 65, 66] (by decide +kernel) (by decide +kernel)
set_option maxRecDepth 20000 in
theorem gX1_setAside_X1_stateAt : GoodIn wsX1_setAside (wsV RX1 25 RX1 yX1_stateAt wsX1_stateAt) := goodIn_app (goodIn_of _ (by decide +kernel)) ggX1_setAside_X1_stateAt
set_option maxRecDepth 20000 in
theorem ggX1_setAside_X2_copyFrom : GoodIn wsX1_setAside wsX2_copyFrom := goodIn_r _ [12, 13, 14, 15, 16, 17, 18, 19, 20, 21, 22, 23, 24, 25, 26, 27, 28, 29, 30, 31, 32, 33, 34, 35, 36, 37, 38, 39, 40, 41, 42, 43, 44, 45, 46, 47, 48, 49, 50, 51, 52, 53, 54, 55, 56, 57, 58, 59, 60, 61, 62, 63, 67, 68, 69, 70, 71, 72, 73, 74, 75, 76, 77, 78, 79, 80, 81, 82, 83, 84, 85, 86, 87, 88, 89, 90, 91, 92] (by decide +kernel) (by decide +kernel)
set_option maxRecDepth 20000 in
theorem gX1_setAside_X2_copyFrom : GoodIn wsX1_setAside (wsV RX1 29 RX2 yX2_copyFrom wsX2_copyFrom) := goodIn_app (goodIn_of _ (by decide +kernel)) ggX1_setAside_X2_copyFrom
theorem dX1_setAside_0 : decode cX1_setAside 0 = .ok (.aload_n 0, 1) := by decide +kernel
theorem dX1_setAside_1 : decode cX1_setAside 1 = .ok (.aload_n 0, 1) := by decide +kernel
theorem dX1_setAside_2 : decode cX1_setAside 2 = .ok (.getfield 22, 3) := by decide +kernel
theorem dX1_setAside_5 : decode cX1_setAside 5 = .ok (.invokevirtual 25, 3) := by decide +kernel
theorem dX1_setAside_8 : decode cX1_setAside 8 = .ok (.astore_n 2, 1) := by decide +kernel
theorem dX1_setAside_9 : decode cX1_setAside 9 = .ok (.aload_n 2, 1) := by decide +kernel
theorem dX1_setAside_10 : decode cX1_setAside 10 = .ok (.ifnull 8, 3) := by decide +kernel
theorem dX1_setAside_13 : decode cX1_setAside 13 = .ok (.aload_n 2, 1) := by decide +kernel
theorem dX1_setAside_14 : decode cX1_setAside 14 = .ok (.aload_n 1, 1) := by decide +kernel
theorem dX1_setAside_15 : decode cX1_setAside 15 = .ok (.invokevirtual 29, 3) := by decide +kernel
theorem dX1_setAside_18 : decode cX1_setAside 18 = .ok (.return_, 1) := by decide +kernel
theorem dX1_keepUnlessError_0 : decode cX1_keepUnlessError 0 = .ok (.iload_n 1, 1) := by decide +kernel
theorem dX1_keepUnlessError_1 : decode cX1_keepUnlessError 1 = .ok (.ifCond .lt 31, 3) := by decide +kernel
theorem dX1_keepUnlessError_4 : decode cX1_keepUnlessError 4 = .ok (.aload_n 0, 1) := by decide +kernel
theorem dX1_keepUnlessError_5 : decode cX1_keepUnlessError 5 = .ok (.aload_n 0, 1) := by decide +kernel
theorem dX1_keepUnlessError_6 : decode cX1_keepUnlessError 6 = .ok (.getfield 22, 3) := by decide +kernel
theorem dX1_keepUnlessError_9 : decode cX1_keepUnlessError 9 = .ok (.iconst 1, 1) := by decide +kernel
theorem dX1_keepUnlessError_10 : decode cX1_keepUnlessError 10 = .ok (.iadd, 1) := by decide +kernel
theorem dX1_keepUnlessError_11 : decode cX1_keepUnlessError 11 = .ok (.bipush 7, 2) := by decide +kernel
theorem dX1_keepUnlessError_13 : decode cX1_keepUnlessError 13 = .ok (.irem, 1) := by decide +kernel
theorem dX1_keepUnlessError_14 : decode cX1_keepUnlessError 14 = .ok (.putfield 22, 3) := by decide +kernel
theorem dX1_keepUnlessError_17 : decode cX1_keepUnlessError 17 = .ok (.aload_n 0, 1) := by decide +kernel
theorem dX1_keepUnlessError_18 : decode cX1_keepUnlessError 18 = .ok (.aload_n 0, 1) := by decide +kernel
theorem dX1_keepUnlessError_19 : decode cX1_keepUnlessError 19 = .ok (.getfield 18, 3) := by decide +kernel
theorem dX1_keepUnlessError_22 : decode cX1_keepUnlessError 22 = .ok (.iconst 1, 1) := by decide +kernel
theorem dX1_keepUnlessError_23 : decode cX1_keepUnlessError 23 = .ok (.iadd, 1) := by decide +kernel
theorem dX1_keepUnlessError_24 : decode cX1_keepUnlessError 24 = .ok (.bipush 6, 2) := by decide +kernel
theorem dX1_keepUnlessError_26 : decode cX1_keepUnlessError 26 = .ok (.invokestatic 33, 3) := by decide +kernel
theorem dX1_keepUnlessError_29 : decode cX1_keepUnlessError 29 = .ok (.putfield 18, 3) := by decide +kernel
theorem dX1_keepUnlessError_32 : decode cX1_keepUnlessError 32 = .ok (.iload_n 1, 1) := by decide +kernel
theorem dX1_keepUnlessError_33 : decode cX1_keepUnlessError 33 = .ok (.ireturn, 1) := by decide +kernel
set_option maxRecDepth 20000 in
theorem ggX1_takeBack_X1_stateAt : GoodIn wsX1_takeBack wsX1_stateAt := goodIn_r _ [7, 8, 65, 66, 67] (by decide +kernel) (by decide +kernel)
set_option maxRecDepth 20000 in
theorem gX1_takeBack_X1_stateAt : GoodIn wsX1_takeBack (wsV RX1 25 RX1 yX1_stateAt wsX1_stateAt) := goodIn_app (goodIn_of _ (by decide +kernel)) ggX1_takeBack_X1_stateAt
set_option maxRecDepth 20000 in
theorem ggX1_takeBack_X2_copyFrom : GoodIn wsX1_takeBack wsX2_copyFrom := goodIn_r _ [13, 14, 15, 16, 17, 18, 19, 20, 21, 22, 23, 24, 25, 26, 27, 28, 29, 30, 31, 32, 33, 34, 35, 36, 37, 38, 39, 40, 41, 42, 43, 44, 45, 46, 47, 48, 49, 50, 51, 52, 53, 54, 55, 56, 57, 58, 59, 60, 61, 62, 63, 64, 68, 69, 70, 71, 72, 73, 74, 75, 76, 77, 78, 79, 80, 81, 82, 83, 84, 85, 86, 87, 88, 89, 90, 91, 92, 93] (by decide +kernel) (by decide +kernel)
set_option maxRecDepth 20000 in
theorem gX1_takeBack_X2_copyFrom : GoodIn wsX1_takeBack (wsV RX1 29 RX2 yX2_copyFrom wsX2_copyFrom) := goodIn_app (goodIn_of _ (by decide +kernel)) ggX1_takeBack_X2_copyFrom
theorem dX1_takeBack_0 : decode cX1_takeBack 0 = .ok (.aload_n 0, 1) := by decide +kernel
theorem dX1_takeBack_1 : decode cX1_takeBack 1 = .ok (.getfield 22, 3) := by decide +kernel
theorem dX1_takeBack_4 : decode cX1_takeBack 4 = .ok (.bipush 7, 2) := by decide +kernel
theorem dX1_takeBack_6 : decode cX1_takeBack 6 = .ok (.iadd, 1) := by decide +kernel
theorem dX1_takeBack_7 : decode cX1_takeBack 7 = .ok (.iconst 1, 1) := by decide +kernel
theorem dX1_takeBack_8 : decode cX1_takeBack 8 = .ok (.isub, 1) := by decide +kernel
theorem dX1_takeBack_9 : decode cX1_takeBack 9 = .ok (.bipush 7, 2) := by decide +kernel
theorem dX1_takeBack_11 : decode cX1_takeBack 11 = .ok (.irem, 1) := by decide +kernel
theorem dX1_takeBack_12 : decode cX1_takeBack 12 = .ok (.istore_n 2, 1) := by decide +kernel
theorem dX1_takeBack_13 : decode cX1_takeBack 13 = .ok (.aload_n 0, 1) := by decide +kernel
theorem dX1_takeBack_14 : decode cX1_takeBack 14 = .ok (.iload_n 2, 1) := by decide +kernel
theorem dX1_takeBack_15 : decode cX1_takeBack 15 = .ok (.invokevirtual 25, 3) := by decide +kernel
theorem dX1_takeBack_18 : decode cX1_takeBack 18 = .ok (.astore_n 3, 1) := by decide +kernel
theorem dX1_takeBack_19 : decode cX1_takeBack 19 = .ok (.aload_n 0, 1) := by decide +kernel
theorem dX1_takeBack_20 : decode cX1_takeBack 20 = .ok (.getfield 18, 3) := by decide +kernel
theorem dX1_takeBack_23 : decode cX1_takeBack 23 = .ok (.ifCond .le 7, 3) := by decide +kernel
theorem dX1_takeBack_26 : decode cX1_takeBack 26 = .ok (.aload_n 3, 1) := by decide +kernel
theorem dX1_takeBack_27 : decode cX1_takeBack 27 = .ok (.ifnonnull 6, 3) := by decide +kernel
theorem dX1_takeBack_30 : decode cX1_takeBack 30 = .ok (.bipush (-5), 2) := by decide +kernel
theorem dX1_takeBack_32 : decode cX1_takeBack 32 = .ok (.ireturn, 1) := by decide +kernel
theorem dX1_takeBack_33 : decode cX1_takeBack 33 = .ok (.aload_n 1, 1) := by decide +kernel
theorem dX1_takeBack_34 : decode cX1_takeBack 34 = .ok (.aload_n 3, 1) := by decide +kernel
theorem dX1_takeBack_35 : decode cX1_takeBack 35 = .ok (.invokevirtual 29, 3) := by decide +kernel
theorem dX1_takeBack_38 : decode cX1_takeBack 38 = .ok (.aload_n 0, 1) := by decide +kernel
theorem dX1_takeBack_39 : decode cX1_takeBack 39 = .ok (.iload_n 2, 1) := by decide +kernel
theorem dX1_takeBack_40 : decode cX1_takeBack 40 = .ok (.putfield 22, 3) := by decide +kernel
theorem dX1_takeBack_43 : decode cX1_takeBack 43 = .ok (.aload_n 0, 1) := by decide +kernel
theorem dX1_takeBack_44 : decode cX1_takeBack 44 = .ok (.dup, 1) := by decide +kernel
theorem dX1_takeBack_45 : decode cX1_takeBack 45 = .ok (.getfield 18, 3) := by decide +kernel
theorem dX1_takeBack_48 : decode cX1_takeBack 48 = .ok (.iconst 1, 1) := by decide +kernel
theorem dX1_takeBack_49 : decode cX1_takeBack 49 = .ok (.isub, 1) := by decide +kernel
theorem dX1_takeBack_50 : decode cX1_takeBack 50 = .ok (.putfield 18, 3) := by decide +kernel
theorem dX1_takeBack_53 : decode cX1_takeBack 53 = .ok (.aload_n 0, 1) := by decide +kernel
theorem dX1_takeBack_54 : decode cX1_takeBack 54 = .ok (.getfield 18, 3) := by decide +kernel
theorem dX1_takeBack_57 : decode cX1_takeBack 57 = .ok (.ireturn, 1) := by decide +kernel
set_option maxRecDepth 20000 in
theorem ggX2_init_X5_init : GoodIn wsX2_init wsX5_init := goodIn_r _ [21, 22, 2, 3, 23, 24, 25, 26, 27, 28, 58] (by decide +kernel) (by decide +kernel)
set_option maxRecDepth 20000 in
theorem gX2_init_X5_init : GoodIn wsX2_init (wsX5_init) := ggX2_init_X5_init
set_option maxRecDepth 20000 in
theorem ggX2_init_X6_init : GoodIn wsX2_init wsX6_init := goodIn_r _ [31, 32, 2, 3, 33, 5, 6, 34, 35, 36, 37, 38, 39, 20, 21, 22, 23, 24, 25, 26, 27, 28, 40, 41, 42, 43, 58, 70, 71, 72, 73, 74, 75, 76, 77] (by decide +kernel) (by decide +kernel)
set_option maxRecDepth 20000 in
theorem gX2_init_X6_init : GoodIn wsX2_init (wsX6_init) := ggX2_init_X6_init
set_option maxRecDepth 20000 in
theorem ggX2_init_X0_init : GoodIn wsX2_init wsX0_init := goodIn_r _ [45, 46, 2, 3, 47, 5, 6, 48, 49, 50, 51, 52, 53, 20, 21, 22, 23, 24, 25, 26, 27, 28, 58, 78, 79, 80, 81, 82, 83] (by decide +kernel) (by decide +kernel)
set_option maxRecDepth 20000 in
theorem gX2_init_X0_init_n29 : GoodIn wsX2_init (wsX0_init) := ggX2_init_X0_init
set_option maxRecDepth 20000 in
theorem ggX2_init_X5_store : GoodIn wsX2_init wsX5_store := goodIn_r _ [57, 28, 58] (by decide +kernel) (by decide +kernel)
set_option maxRecDepth 20000 in
theorem gX2_init_X5_store : GoodIn wsX2_init (wsV RX2 48 RX5 yX5_store wsX5_store) := goodIn_app (goodIn_of _ (by decide +kernel)) ggX2_init_X5_store
theorem dX2_init_0 : decode cX2_init 0 = .ok (.aload_n 0, 1) := by decide +kernel
theorem dX2_init_1 : decode cX2_init 1 = .ok (.invokespecial 3, 3) := by decide +kernel
theorem dX2_init_4 : decode cX2_init 4 = .ok (.aload_n 0, 1) := by decide +kernel
theorem dX2_init_5 : decode cX2_init 5 = .ok (.new 9, 3) := by decide +kernel
theorem dX2_init_8 : decode cX2_init 8 = .ok (.dup, 1) := by decide +kernel
theorem dX2_init_9 : decode cX2_init 9 = .ok (.bipush 6, 2) := by decide +kernel
theorem dX2_init_11 : decode cX2_init 11 = .ok (.invokespecial 11, 3) := by decide +kernel
theorem dX2_init_14 : decode cX2_init 14 = .ok (.putfield 14, 3) := by decide +kernel
theorem dX2_init_17 : decode cX2_init 17 = .ok (.aload_n 0, 1) := by decide +kernel
theorem dX2_init_18 : decode cX2_init 18 = .ok (.new 20, 3) := by decide +kernel
theorem dX2_init_21 : decode cX2_init 21 = .ok (.dup, 1) := by decide +kernel
theorem dX2_init_22 : decode cX2_init 22 = .ok (.invokespecial 22, 3) := by decide +kernel
theorem dX2_init_25 : decode cX2_init 25 = .ok (.putfield 23, 3) := by decide +kernel
theorem dX2_init_28 : decode cX2_init 28 = .ok (.aload_n 0, 1) := by decide +kernel
theorem dX2_init_29 : decode cX2_init 29 = .ok (.new 27, 3) := by decide +kernel
theorem dX2_init_32 : decode cX2_init 32 = .ok (.dup, 1) := by decide +kernel
theorem dX2_init_33 : decode cX2_init 33 = .ok (.invokespecial 29, 3) := by decide +kernel
theorem dX2_init_36 : decode cX2_init 36 = .ok (.putfield 30, 3) := by decide +kernel
theorem dX2_init_39 : decode cX2_init 39 = .ok (.aload_n 0, 1) := by decide +kernel
theorem dX2_init_40 : decode cX2_init 40 = .ok (.new 9, 3) := by decide +kernel
theorem dX2_init_43 : decode cX2_init 43 = .ok (.dup, 1) := by decide +kernel
theorem dX2_init_44 : decode cX2_init 44 = .ok (.iconst 4, 1) := by decide +kernel
theorem dX2_init_45 : decode cX2_init 45 = .ok (.invokespecial 11, 3) := by decide +kernel
theorem dX2_init_48 : decode cX2_init 48 = .ok (.putfield 34, 3) := by decide +kernel
theorem dX2_init_51 : decode cX2_init 51 = .ok (.aload_n 0, 1) := by decide +kernel
theorem dX2_init_52 : decode cX2_init 52 = .ok (.new 9, 3) := by decide +kernel
theorem dX2_init_55 : decode cX2_init 55 = .ok (.dup, 1) := by decide +kernel
theorem dX2_init_56 : decode cX2_init 56 = .ok (.bipush 24, 2) := by decide +kernel
theorem dX2_init_58 : decode cX2_init 58 = .ok (.invokespecial 11, 3) := by decide +kernel
theorem dX2_init_61 : decode cX2_init 61 = .ok (.putfield 37, 3) := by decide +kernel
theorem dX2_init_64 : decode cX2_init 64 = .ok (.aload_n 0, 1) := by decide +kernel
theorem dX2_init_65 : decode cX2_init 65 = .ok (.bipush (-6), 2) := by decide +kernel
theorem dX2_init_67 : decode cX2_init 67 = .ok (.putfield 40, 3) := by decide +kernel
theorem dX2_init_70 : decode cX2_init 70 = .ok (.iconst 0, 1) := by decide +kernel
theorem dX2_init_71 : decode cX2_init 71 = .ok (.istore_n 1, 1) := by decide +kernel
theorem dX2_init_72 : decode cX2_init 72 = .ok (.iload_n 1, 1) := by decide +kernel
theorem dX2_init_73 : decode cX2_init 73 = .ok (.bipush 6, 2) := by decide +kernel
theorem dX2_init_75 : decode cX2_init 75 = .ok (.if_icmp .ge 30, 3) := by decide +kernel
theorem dX2_init_78 : decode cX2_init 78 = .ok (.iload_n 1, 1) := by decide +kernel
theorem dX2_init_79 : decode cX2_init 79 = .ok (.getstatic 44, 3) := by decide +kernel
theorem dX2_init_82 : decode cX2_init 82 = .ok (.arraylength, 1) := by decide +kernel
theorem dX2_init_83 : decode cX2_init 83 = .ok (.if_icmp .ge 22, 3) := by decide +kernel
theorem dX2_init_86 : decode cX2_init 86 = .ok (.aload_n 0, 1) := by decide +kernel
theorem dX2_init_87 : decode cX2_init 87 = .ok (.getfield 14, 3) := by decide +kernel
theorem dX2_init_90 : decode cX2_init 90 = .ok (.iload_n 1, 1) := by decide +kernel
theorem dX2_init_91 : decode cX2_init 91 = .ok (.getstatic 44, 3) := by decide +kernel
theorem dX2_init_94 : decode cX2_init 94 = .ok (.iload_n 1, 1) := by decide +kernel
theorem dX2_init_95 : decode cX2_init 95 = .ok (.iaload, 1) := by decide +kernel
theorem dX2_init_96 : decode cX2_init 96 = .ok (.invokevirtual 48, 3) := by decide +kernel
theorem dX2_init_99 : decode cX2_init 99 = .ok (.iinc 1 1, 3) := by decide +kernel
theorem dX2_init_102 : decode cX2_init 102 = .ok (.goto (-30), 3) := by decide +kernel
theorem dX2_init_105 : decode cX2_init 105 = .ok (.return_, 1) := by decide +kernel
set_option maxRecDepth 20000 in
theorem ggX2_copyFrom_X5_copyFrom : GoodIn wsX2_copyFrom wsX5_copyFrom := goodIn_r _ [16, 17, 18, 19, 20, 21, 22, 23, 24, 25, 63] (by decide +kernel) (by decide +kernel)
set_option maxRecDepth 20000 in
theorem gX2_copyFrom_X5_copyFrom : GoodIn wsX2_copyFrom (wsV RX2 52 RX5 yX5_copyFrom wsX5_copyFrom) := goodIn_app (goodIn_of _ (by decide +kernel)) ggX2_copyFrom_X5_copyFrom
set_option maxRecDepth 20000 in
theorem ggX2_copyFrom_X6_copyFrom : GoodIn wsX2_copyFrom wsX6_copyFrom := goodIn_r _ [30, 31, 32, 33, 34, 35, 36, 37, 38, 39, 13, 14, 15, 16, 17, 18, 19, 20, 21, 22, 23, 24, 25, 64, 65, 66, 67, 68, 69, 70, 71, 63] (by decide +kernel) (by decide +kernel)
set_option maxRecDepth 20000 in
theorem gX2_copyFrom_X6_copyFrom : GoodIn wsX2_copyFrom (wsV RX2 56 RX6 yX6_copyFrom wsX6_copyFrom) := goodIn_app (goodIn_of _ (by decide +kernel)) ggX2_copyFrom_X6_copyFrom
set_option maxRecDepth 20000 in
theorem ggX2_copyFrom_X0_copyFrom : GoodIn wsX2_copyFrom wsX0_copyFrom := goodIn_r _ [44, 45, 46, 47, 48, 49, 50, 51, 13, 14, 15, 16, 17, 18, 19, 20, 21, 22, 23, 24, 25, 72, 73, 74, 75, 76, 77, 63] (by decide +kernel) (by decide +kernel)
set_option maxRecDepth 20000 in
theorem gX2_copyFrom_X0_copyFrom : GoodIn wsX2_copyFrom (wsV RX2 59 RX0 yX0_copyFrom wsX0_copyFrom) := goodIn_app (goodIn_of _ (by decide +kernel)) ggX2_copyFrom_X0_copyFrom
theorem dX2_copyFrom_0 : decode cX2_copyFrom 0 = .ok (.aload_n 0, 1) := by decide +kernel
theorem dX2_copyFrom_1 : decode cX2_copyFrom 1 = .ok (.getfield 14, 3) := by decide +kernel
theorem dX2_copyFrom_4 : decode cX2_copyFrom 4 = .ok (.aload_n 1, 1) := by decide +kernel
theorem dX2_copyFrom_5 : decode cX2_copyFrom 5 = .ok (.getfield 14, 3) := by decide +kernel
theorem dX2_copyFrom_8 : decode cX2_copyFrom 8 = .ok (.invokevirtual 52, 3) := by decide +kernel
theorem dX2_copyFrom_11 : decode cX2_copyFrom 11 = .ok (.aload_n 0, 1) := by decide +kernel
theorem dX2_copyFrom_12 : decode cX2_copyFrom 12 = .ok (.getfield 23, 3) := by decide +kernel
theorem dX2_copyFrom_15 : decode cX2_copyFrom 15 = .ok (.aload_n 1, 1) := by decide +kernel
theorem dX2_copyFrom_16 : decode cX2_copyFrom 16 = .ok (.getfield 23, 3) := by decide +kernel
theorem dX2_copyFrom_19 : decode cX2_copyFrom 19 = .ok (.invokevirtual 56, 3) := by decide +kernel
theorem dX2_copyFrom_22 : decode cX2_copyFrom 22 = .ok (.aload_n 0, 1) := by decide +kernel
theorem dX2_copyFrom_23 : decode cX2_copyFrom 23 = .ok (.getfield 30, 3) := by decide +kernel
theorem dX2_copyFrom_26 : decode cX2_copyFrom 26 = .ok (.aload_n 1, 1) := by decide +kernel
theorem dX2_copyFrom_27 : decode cX2_copyFrom 27 = .ok (.getfield 30, 3) := by decide +kernel
theorem dX2_copyFrom_30 : decode cX2_copyFrom 30 = .ok (.invokevirtual 59, 3) := by decide +kernel
theorem dX2_copyFrom_33 : decode cX2_copyFrom 33 = .ok (.aload_n 0, 1) := by decide +kernel
theorem dX2_copyFrom_34 : decode cX2_copyFrom 34 = .ok (.getfield 34, 3) := by decide +kernel
theorem dX2_copyFrom_37 : decode cX2_copyFrom 37 = .ok (.aload_n 1, 1) := by decide +kernel
theorem dX2_copyFrom_38 : decode cX2_copyFrom 38 = .ok (.getfield 34, 3) := by decide +kernel
theorem dX2_copyFrom_41 : decode cX2_copyFrom 41 = .ok (.invokevirtual 52, 3) := by decide +kernel
theorem dX2_copyFrom_44 : decode cX2_copyFrom 44 = .ok (.aload_n 0, 1) := by decide +kernel
theorem dX2_copyFrom_45 : decode cX2_copyFrom 45 = .ok (.getfield 37, 3) := by decide +kernel
theorem dX2_copyFrom_48 : decode cX2_copyFrom 48 = .ok (.aload_n 1, 1) := by decide +kernel
theorem dX2_copyFrom_49 : decode cX2_copyFrom 49 = .ok (.getfield 37, 3) := by decide +kernel
theorem dX2_copyFrom_52 : decode cX2_copyFrom 52 = .ok (.invokevirtual 52, 3) := by decide +kernel
theorem dX2_copyFrom_55 : decode cX2_copyFrom 55 = .ok (.aload_n 0, 1) := by decide +kernel
theorem dX2_copyFrom_56 : decode cX2_copyFrom 56 = .ok (.aload_n 1, 1) := by decide +kernel
theorem dX2_copyFrom_57 : decode cX2_copyFrom 57 = .ok (.getfield 62, 3) := by decide +kernel
theorem dX2_copyFrom_60 : decode cX2_copyFrom 60 = .ok (.putfield 62, 3) := by decide +kernel
theorem dX2_copyFrom_63 : decode cX2_copyFrom 63 = .ok (.aload_n 0, 1) := by decide +kernel
theorem dX2_copyFrom_64 : decode cX2_copyFrom 64 = .ok (.aload_n 1, 1) := by decide +kernel
theorem dX2_copyFrom_65 : decode cX2_copyFrom 65 = .ok (.getfield 65, 3) := by decide +kernel
theorem dX2_copyFrom_68 : decode cX2_copyFrom 68 = .ok (.putfield 65, 3) := by decide +kernel
theorem dX2_copyFrom_71 : decode cX2_copyFrom 71 = .ok (.aload_n 0, 1) := by decide +kernel
theorem dX2_copyFrom_72 : decode cX2_copyFrom 72 = .ok (.aload_n 1, 1) := by decide +kernel
theorem dX2_copyFrom_73 : decode cX2_copyFrom 73 = .ok (.getfield 68, 3) := by decide +kernel
theorem dX2_copyFrom_76 : decode cX2_copyFrom 76 = .ok (.putfield 68, 3) := by decide +kernel
theorem dX2_copyFrom_79 : decode cX2_copyFrom 79 = .ok (.aload_n 0, 1) := by decide +kernel
theorem dX2_copyFrom_80 : decode cX2_copyFrom 80 = .ok (.aload_n 1, 1) := by decide +kernel
theorem dX2_copyFrom_81 : decode cX2_copyFrom 81 = .ok (.getfield 40, 3) := by decide +kernel
theorem dX2_copyFrom_84 : decode cX2_copyFrom 84 = .ok (.putfield 40, 3) := by decide +kernel
theorem dX2_copyFrom_87 : decode cX2_copyFrom 87 = .ok (.aload_n 0, 1) := by decide +kernel
theorem dX2_copyFrom_88 : decode cX2_copyFrom 88 = .ok (.aload_n 1, 1) := by decide +kernel
theorem dX2_copyFrom_89 : decode cX2_copyFrom 89 = .ok (.getfield 71, 3) := by decide +kernel
theorem dX2_copyFrom_92 : decode cX2_copyFrom 92 = .ok (.putfield 71, 3) := by decide +kernel
theorem dX2_copyFrom_95 : decode cX2_copyFrom 95 = .ok (.aload_n 0, 1) := by decide +kernel
theorem dX2_copyFrom_96 : decode cX2_copyFrom 96 = .ok (.aload_n 1, 1) := by decide +kernel
theorem dX2_copyFrom_97 : decode cX2_copyFrom 97 = .ok (.getfield 74, 3) := by decide +kernel
theorem dX2_copyFrom_100 : decode cX2_copyFrom 100 = .ok (.putfield 74, 3) := by decide +kernel
theorem dX2_copyFrom_103 : decode cX2_copyFrom 103 = .ok (.return_, 1) := by decide +kernel
set_option maxRecDepth 20000 in
theorem ggX2_changeSetting_X5_at : GoodIn wsX2_changeSetting wsX5_at := goodIn_r _ [6, 7, 23] (by decide +kernel) (by decide +kernel)
set_option maxRecDepth 20000 in
theorem gX2_changeSetting_X5_at : GoodIn wsX2_changeSetting (wsV RX2 84 RX5 yX5_at wsX5_at) := goodIn_app (goodIn_of _ (by decide +kernel)) ggX2_changeSetting_X5_at
set_option maxRecDepth 20000 in
theorem ggX2_changeSetting_X5_store : GoodIn wsX2_changeSetting wsX5_store := goodIn_r _ [11, 7, 23] (by decide +kernel) (by decide +kernel)
set_option maxRecDepth 20000 in
theorem gX2_changeSetting_X5_store : GoodIn wsX2_changeSetting (wsV RX2 48 RX5 yX5_store wsX5_store) := goodIn_app (goodIn_of _ (by decide +kernel)) ggX2_changeSetting_X5_store
theorem dX2_changeSetting_0 : decode cX2_changeSetting 0 = .ok (.iload_n 1, 1) := by decide +kernel
theorem dX2_changeSetting_1 : decode cX2_changeSetting 1 = .ok (.ifCond .lt 19, 3) := by decide +kernel
theorem dX2_changeSetting_4 : decode cX2_changeSetting 4 = .ok (.iload_n 1, 1) := by decide +kernel
theorem dX2_changeSetting_5 : decode cX2_changeSetting 5 = .ok (.getstatic 78, 3) := by decide +kernel
theorem dX2_changeSetting_8 : decode cX2_changeSetting 8 = .ok (.arraylength, 1) := by decide +kernel
theorem dX2_changeSetting_9 : decode cX2_changeSetting 9 = .ok (.if_icmp .ge 11, 3) := by decide +kernel
theorem dX2_changeSetting_12 : decode cX2_changeSetting 12 = .ok (.iload_n 1, 1) := by decide +kernel
theorem dX2_changeSetting_13 : decode cX2_changeSetting 13 = .ok (.getstatic 81, 3) := by decide +kernel
theorem dX2_changeSetting_16 : decode cX2_changeSetting 16 = .ok (.arraylength, 1) := by decide +kernel
theorem dX2_changeSetting_17 : decode cX2_changeSetting 17 = .ok (.if_icmp .lt 6, 3) := by decide +kernel
theorem dX2_changeSetting_20 : decode cX2_changeSetting 20 = .ok (.bipush (-2), 2) := by decide +kernel
theorem dX2_changeSetting_22 : decode cX2_changeSetting 22 = .ok (.ireturn, 1) := by decide +kernel
theorem dX2_changeSetting_23 : decode cX2_changeSetting 23 = .ok (.iload_n 2, 1) := by decide +kernel
theorem dX2_changeSetting_24 : decode cX2_changeSetting 24 = .ok (.getstatic 78, 3) := by decide +kernel
theorem dX2_changeSetting_27 : decode cX2_changeSetting 27 = .ok (.iload_n 1, 1) := by decide +kernel
theorem dX2_changeSetting_28 : decode cX2_changeSetting 28 = .ok (.iaload, 1) := by decide +kernel
theorem dX2_changeSetting_29 : decode cX2_changeSetting 29 = .ok (.if_icmp .lt 12, 3) := by decide +kernel
theorem dX2_changeSetting_32 : decode cX2_changeSetting 32 = .ok (.iload_n 2, 1) := by decide +kernel
theorem dX2_changeSetting_33 : decode cX2_changeSetting 33 = .ok (.getstatic 81, 3) := by decide +kernel
theorem dX2_changeSetting_36 : decode cX2_changeSetting 36 = .ok (.iload_n 1, 1) := by decide +kernel
theorem dX2_changeSetting_37 : decode cX2_changeSetting 37 = .ok (.iaload, 1) := by decide +kernel
theorem dX2_changeSetting_38 : decode cX2_changeSetting 38 = .ok (.if_icmp .le 6, 3) := by decide +kernel
theorem dX2_changeSetting_41 : decode cX2_changeSetting 41 = .ok (.bipush (-2), 2) := by decide +kernel
theorem dX2_changeSetting_43 : decode cX2_changeSetting 43 = .ok (.ireturn, 1) := by decide +kernel
theorem dX2_changeSetting_44 : decode cX2_changeSetting 44 = .ok (.aload_n 0, 1) := by decide +kernel
theorem dX2_changeSetting_45 : decode cX2_changeSetting 45 = .ok (.getfield 14, 3) := by decide +kernel
theorem dX2_changeSetting_48 : decode cX2_changeSetting 48 = .ok (.iload_n 1, 1) := by decide +kernel
theorem dX2_changeSetting_49 : decode cX2_changeSetting 49 = .ok (.invokevirtual 84, 3) := by decide +kernel
theorem dX2_changeSetting_52 : decode cX2_changeSetting 52 = .ok (.istore_n 3, 1) := by decide +kernel
theorem dX2_changeSetting_53 : decode cX2_changeSetting 53 = .ok (.aload_n 0, 1) := by decide +kernel
theorem dX2_changeSetting_54 : decode cX2_changeSetting 54 = .ok (.getfield 14, 3) := by decide +kernel
theorem dX2_changeSetting_57 : decode cX2_changeSetting 57 = .ok (.iload_n 1, 1) := by decide +kernel
theorem dX2_changeSetting_58 : decode cX2_changeSetting 58 = .ok (.iload_n 2, 1) := by decide +kernel
theorem dX2_changeSetting_59 : decode cX2_changeSetting 59 = .ok (.invokevirtual 48, 3) := by decide +kernel
theorem dX2_changeSetting_62 : decode cX2_changeSetting 62 = .ok (.iload_n 3, 1) := by decide +kernel
theorem dX2_changeSetting_63 : decode cX2_changeSetting 63 = .ok (.ireturn, 1) := by decide +kernel
set_option maxRecDepth 20000 in
theorem ggX2_changeLoudness_X7_isSeat : GoodIn wsX2_changeLoudness wsX7_isSeat := goodIn_r _ [4] (by decide +kernel) (by decide +kernel)
set_option maxRecDepth 20000 in
theorem gX2_changeLoudness_X7_isSeat_n88 : GoodIn wsX2_changeLoudness (wsX7_isSeat) := ggX2_changeLoudness_X7_isSeat
set_option maxRecDepth 20000 in
theorem ggX2_changeLoudness_X5_at : GoodIn wsX2_changeLoudness wsX5_at := goodIn_r _ [9, 10, 34] (by decide +kernel) (by decide +kernel)
set_option maxRecDepth 20000 in
theorem gX2_changeLoudness_X5_at : GoodIn wsX2_changeLoudness (wsV RX2 84 RX5 yX5_at wsX5_at) := goodIn_app (goodIn_of _ (by decide +kernel)) ggX2_changeLoudness_X5_at
set_option maxRecDepth 20000 in
theorem ggX2_changeLoudness_X5_store : GoodIn wsX2_changeLoudness wsX5_store := goodIn_r _ [14, 10, 34] (by decide +kernel) (by decide +kernel)
set_option maxRecDepth 20000 in
theorem gX2_changeLoudness_X5_store : GoodIn wsX2_changeLoudness (wsV RX2 48 RX5 yX5_store wsX5_store) := goodIn_app (goodIn_of _ (by decide +kernel)) ggX2_changeLoudness_X5_store
theorem dX2_changeLoudness_0 : decode cX2_changeLoudness 0 = .ok (.iload_n 1, 1) := by decide +kernel
theorem dX2_changeLoudness_1 : decode cX2_changeLoudness 1 = .ok (.invokestatic 88, 3) := by decide +kernel
theorem dX2_changeLoudness_4 : decode cX2_changeLoudness 4 = .ok (.ifCond .ne 5, 3) := by decide +kernel
theorem dX2_changeLoudness_7 : decode cX2_changeLoudness 7 = .ok (.iconst (-1), 1) := by decide +kernel
theorem dX2_changeLoudness_8 : decode cX2_changeLoudness 8 = .ok (.ireturn, 1) := by decide +kernel
theorem dX2_changeLoudness_9 : decode cX2_changeLoudness 9 = .ok (.iload_n 2, 1) := by decide +kernel
theorem dX2_changeLoudness_10 : decode cX2_changeLoudness 10 = .ok (.iconst 1, 1) := by decide +kernel
theorem dX2_changeLoudness_11 : decode cX2_changeLoudness 11 = .ok (.if_icmp .lt 9, 3) := by decide +kernel
theorem dX2_changeLoudness_14 : decode cX2_changeLoudness 14 = .ok (.iload_n 2, 1) := by decide +kernel
theorem dX2_changeLoudness_15 : decode cX2_changeLoudness 15 = .ok (.bipush 9, 2) := by decide +kernel
theorem dX2_changeLoudness_17 : decode cX2_changeLoudness 17 = .ok (.if_icmp .le 6, 3) := by decide +kernel
theorem dX2_changeLoudness_20 : decode cX2_changeLoudness 20 = .ok (.bipush (-2), 2) := by decide +kernel
theorem dX2_changeLoudness_22 : decode cX2_changeLoudness 22 = .ok (.ireturn, 1) := by decide +kernel
theorem dX2_changeLoudness_23 : decode cX2_changeLoudness 23 = .ok (.aload_n 0, 1) := by decide +kernel
theorem dX2_changeLoudness_24 : decode cX2_changeLoudness 24 = .ok (.getfield 23, 3) := by decide +kernel
theorem dX2_changeLoudness_27 : decode cX2_changeLoudness 27 = .ok (.getfield 92, 3) := by decide +kernel
theorem dX2_changeLoudness_30 : decode cX2_changeLoudness 30 = .ok (.iload_n 1, 1) := by decide +kernel
theorem dX2_changeLoudness_31 : decode cX2_changeLoudness 31 = .ok (.invokevirtual 84, 3) := by decide +kernel
theorem dX2_changeLoudness_34 : decode cX2_changeLoudness 34 = .ok (.istore_n 3, 1) := by decide +kernel
theorem dX2_changeLoudness_35 : decode cX2_changeLoudness 35 = .ok (.aload_n 0, 1) := by decide +kernel
theorem dX2_changeLoudness_36 : decode cX2_changeLoudness 36 = .ok (.getfield 23, 3) := by decide +kernel
theorem dX2_changeLoudness_39 : decode cX2_changeLoudness 39 = .ok (.getfield 92, 3) := by decide +kernel
theorem dX2_changeLoudness_42 : decode cX2_changeLoudness 42 = .ok (.iload_n 1, 1) := by decide +kernel
theorem dX2_changeLoudness_43 : decode cX2_changeLoudness 43 = .ok (.iload_n 2, 1) := by decide +kernel
theorem dX2_changeLoudness_44 : decode cX2_changeLoudness 44 = .ok (.invokevirtual 48, 3) := by decide +kernel
theorem dX2_changeLoudness_47 : decode cX2_changeLoudness 47 = .ok (.iload_n 3, 1) := by decide +kernel
theorem dX2_changeLoudness_48 : decode cX2_changeLoudness 48 = .ok (.ireturn, 1) := by decide +kernel
set_option maxRecDepth 20000 in
theorem ggX2_switchPay_X7_isSeat : GoodIn wsX2_switchPay wsX7_isSeat := goodIn_r _ [4] (by decide +kernel) (by decide +kernel)
set_option maxRecDepth 20000 in
theorem gX2_switchPay_X7_isSeat_n88 : GoodIn wsX2_switchPay (wsX7_isSeat) := ggX2_switchPay_X7_isSeat
theorem dX2_switchPay_0 : decode cX2_switchPay 0 = .ok (.iload_n 1, 1) := by decide +kernel
theorem dX2_switchPay_1 : decode cX2_switchPay 1 = .ok (.invokestatic 88, 3) := by decide +kernel
theorem dX2_switchPay_4 : decode cX2_switchPay 4 = .ok (.ifCond .ne 5, 3) := by decide +kernel
theorem dX2_switchPay_7 : decode cX2_switchPay 7 = .ok (.iconst (-1), 1) := by decide +kernel
theorem dX2_switchPay_8 : decode cX2_switchPay 8 = .ok (.ireturn, 1) := by decide +kernel
theorem dX2_switchPay_9 : decode cX2_switchPay 9 = .ok (.aload_n 0, 1) := by decide +kernel
theorem dX2_switchPay_10 : decode cX2_switchPay 10 = .ok (.getfield 23, 3) := by decide +kernel
theorem dX2_switchPay_13 : decode cX2_switchPay 13 = .ok (.dup, 1) := by decide +kernel
theorem dX2_switchPay_14 : decode cX2_switchPay 14 = .ok (.getfield 95, 3) := by decide +kernel
theorem dX2_switchPay_17 : decode cX2_switchPay 17 = .ok (.iconst 1, 1) := by decide +kernel
theorem dX2_switchPay_18 : decode cX2_switchPay 18 = .ok (.iload_n 1, 1) := by decide +kernel
theorem dX2_switchPay_19 : decode cX2_switchPay 19 = .ok (.ishl, 1) := by decide +kernel
theorem dX2_switchPay_20 : decode cX2_switchPay 20 = .ok (.ixor, 1) := by decide +kernel
theorem dX2_switchPay_21 : decode cX2_switchPay 21 = .ok (.putfield 95, 3) := by decide +kernel
theorem dX2_switchPay_24 : decode cX2_switchPay 24 = .ok (.aload_n 0, 1) := by decide +kernel
theorem dX2_switchPay_25 : decode cX2_switchPay 25 = .ok (.getfield 23, 3) := by decide +kernel
theorem dX2_switchPay_28 : decode cX2_switchPay 28 = .ok (.getfield 95, 3) := by decide +kernel
theorem dX2_switchPay_31 : decode cX2_switchPay 31 = .ok (.ireturn, 1) := by decide +kernel
set_option maxRecDepth 20000 in
theorem ggX2_endPiece_X7_isPerformer : GoodIn wsX2_endPiece wsX7_isPerformer := goodIn_r _ [4] (by decide +kernel) (by decide +kernel)
set_option maxRecDepth 20000 in
theorem gX2_endPiece_X7_isPerformer_n98 : GoodIn wsX2_endPiece (wsX7_isPerformer) := ggX2_endPiece_X7_isPerformer
set_option maxRecDepth 20000 in
theorem ggX2_endPiece_X2_beginApplause : GoodIn wsX2_endPiece wsX2_beginApplause := goodIn_r _ [9, 10, 11, 1, 12, 13, 14, 15, 16, 17, 18, 19, 20, 21, 22, 23, 24, 25, 26, 27, 28, 29, 30, 31, 32, 33, 34, 35, 36, 37, 38, 39, 40, 41, 42, 43, 44, 45, 46, 47, 48, 49, 50, 51, 52, 53] (by decide +kernel) (by decide +kernel)
set_option maxRecDepth 20000 in
theorem gX2_endPiece_X2_beginApplause : GoodIn wsX2_endPiece (wsV RX2 101 RX2 yX2_beginApplause wsX2_beginApplause) := goodIn_app (goodIn_of _ (by decide +kernel)) ggX2_endPiece_X2_beginApplause
theorem dX2_endPiece_0 : decode cX2_endPiece 0 = .ok (.iload_n 1, 1) := by decide +kernel
theorem dX2_endPiece_1 : decode cX2_endPiece 1 = .ok (.invokestatic 98, 3) := by decide +kernel
theorem dX2_endPiece_4 : decode cX2_endPiece 4 = .ok (.ifCond .ne 5, 3) := by decide +kernel
theorem dX2_endPiece_7 : decode cX2_endPiece 7 = .ok (.iconst (-1), 1) := by decide +kernel
theorem dX2_endPiece_8 : decode cX2_endPiece 8 = .ok (.ireturn, 1) := by decide +kernel
theorem dX2_endPiece_9 : decode cX2_endPiece 9 = .ok (.aload_n 0, 1) := by decide +kernel
theorem dX2_endPiece_10 : decode cX2_endPiece 10 = .ok (.getfield 62, 3) := by decide +kernel
theorem dX2_endPiece_13 : decode cX2_endPiece 13 = .ok (.istore_n 2, 1) := by decide +kernel
theorem dX2_endPiece_14 : decode cX2_endPiece 14 = .ok (.aload_n 0, 1) := by decide +kernel
theorem dX2_endPiece_15 : decode cX2_endPiece 15 = .ok (.iload_n 1, 1) := by decide +kernel
theorem dX2_endPiece_16 : decode cX2_endPiece 16 = .ok (.invokevirtual 101, 3) := by decide +kernel
theorem dX2_endPiece_19 : decode cX2_endPiece 19 = .ok (.iload_n 2, 1) := by decide +kernel
theorem dX2_endPiece_20 : decode cX2_endPiece 20 = .ok (.ireturn, 1) := by decide +kernel
set_option maxRecDepth 20000 in
theorem ggX2_beginApplause_X5_add : GoodIn wsX2_beginApplause wsX5_add := goodIn_r _ [12, 13, 37] (by decide +kernel) (by decide +kernel)
set_option maxRecDepth 20000 in
theorem gX2_beginApplause_X5_add : GoodIn wsX2_beginApplause (wsV RX2 107 RX5 yX5_add wsX5_add) := goodIn_app (goodIn_of _ (by decide +kernel)) ggX2_beginApplause_X5_add
set_option maxRecDepth 20000 in
theorem ggX2_beginApplause_X6_beginPiece : GoodIn wsX2_beginApplause wsX6_beginPiece := goodIn_r _ [18, 19, 38, 39, 40, 41, 42, 43, 44, 45] (by decide +kernel) (by decide +kernel)
set_option maxRecDepth 20000 in
theorem gX2_beginApplause_X6_beginPiece : GoodIn wsX2_beginApplause (wsV RX2 110 RX6 yX6_beginPiece wsX6_beginPiece) := goodIn_app (goodIn_of _ (by decide +kernel)) ggX2_beginApplause_X6_beginPiece
theorem dX2_beginApplause_0 : decode cX2_beginApplause 0 = .ok (.aload_n 0, 1) := by decide +kernel
theorem dX2_beginApplause_1 : decode cX2_beginApplause 1 = .ok (.getfield 30, 3) := by decide +kernel
theorem dX2_beginApplause_4 : decode cX2_beginApplause 4 = .ok (.getfield 104, 3) := by decide +kernel
theorem dX2_beginApplause_7 : decode cX2_beginApplause 7 = .ok (.iload_n 1, 1) := by decide +kernel
theorem dX2_beginApplause_8 : decode cX2_beginApplause 8 = .ok (.iconst 1, 1) := by decide +kernel
theorem dX2_beginApplause_9 : decode cX2_beginApplause 9 = .ok (.invokevirtual 107, 3) := by decide +kernel
theorem dX2_beginApplause_12 : decode cX2_beginApplause 12 = .ok (.aload_n 0, 1) := by decide +kernel
theorem dX2_beginApplause_13 : decode cX2_beginApplause 13 = .ok (.getfield 23, 3) := by decide +kernel
theorem dX2_beginApplause_16 : decode cX2_beginApplause 16 = .ok (.invokevirtual 110, 3) := by decide +kernel
theorem dX2_beginApplause_19 : decode cX2_beginApplause 19 = .ok (.aload_n 0, 1) := by decide +kernel
theorem dX2_beginApplause_20 : decode cX2_beginApplause 20 = .ok (.iconst 0, 1) := by decide +kernel
theorem dX2_beginApplause_21 : decode cX2_beginApplause 21 = .ok (.putfield 62, 3) := by decide +kernel
theorem dX2_beginApplause_24 : decode cX2_beginApplause 24 = .ok (.aload_n 0, 1) := by decide +kernel
theorem dX2_beginApplause_25 : decode cX2_beginApplause 25 = .ok (.iload_n 1, 1) := by decide +kernel
theorem dX2_beginApplause_26 : decode cX2_beginApplause 26 = .ok (.putfield 40, 3) := by decide +kernel
theorem dX2_beginApplause_29 : decode cX2_beginApplause 29 = .ok (.aload_n 0, 1) := by decide +kernel
theorem dX2_beginApplause_30 : decode cX2_beginApplause 30 = .ok (.aload_n 0, 1) := by decide +kernel
theorem dX2_beginApplause_31 : decode cX2_beginApplause 31 = .ok (.getfield 65, 3) := by decide +kernel
theorem dX2_beginApplause_34 : decode cX2_beginApplause 34 = .ok (.putfield 71, 3) := by decide +kernel
theorem dX2_beginApplause_37 : decode cX2_beginApplause 37 = .ok (.aload_n 0, 1) := by decide +kernel
theorem dX2_beginApplause_38 : decode cX2_beginApplause 38 = .ok (.iconst 0, 1) := by decide +kernel
theorem dX2_beginApplause_39 : decode cX2_beginApplause 39 = .ok (.putfield 74, 3) := by decide +kernel
theorem dX2_beginApplause_42 : decode cX2_beginApplause 42 = .ok (.return_, 1) := by decide +kernel
set_option maxRecDepth 20000 in
theorem ggX2_takeClap_X7_isSeat : GoodIn wsX2_takeClap wsX7_isSeat := goodIn_r _ [15] (by decide +kernel) (by decide +kernel)
set_option maxRecDepth 20000 in
theorem gX2_takeClap_X7_isSeat_n88 : GoodIn wsX2_takeClap (wsX7_isSeat) := ggX2_takeClap_X7_isSeat
set_option maxRecDepth 20000 in
theorem ggX2_takeClap_X5_at : GoodIn wsX2_takeClap wsX5_at := goodIn_r _ [20, 21, 83] (by decide +kernel) (by decide +kernel)
set_option maxRecDepth 20000 in
theorem gX2_takeClap_X5_at : GoodIn wsX2_takeClap (wsV RX2 84 RX5 yX5_at wsX5_at) := goodIn_app (goodIn_of _ (by decide +kernel)) ggX2_takeClap_X5_at
set_option maxRecDepth 20000 in
theorem ggX2_takeClap_X6_addClap : GoodIn wsX2_takeClap wsX6_addClap := goodIn_r _ [26, 27, 28, 29, 30, 31, 32, 33, 34, 35, 25, 36, 37, 38, 39, 19, 40, 21, 41, 17, 18, 20, 42, 43, 44, 45, 75, 76, 77, 78, 79, 80, 81, 82, 83] (by decide +kernel) (by decide +kernel)
set_option maxRecDepth 20000 in
theorem gX2_takeClap_X6_addClap : GoodIn wsX2_takeClap (wsV RX2 113 RX6 yX6_addClap wsX6_addClap) := goodIn_app (goodIn_of _ (by decide +kernel)) ggX2_takeClap_X6_addClap
set_option maxRecDepth 20000 in
theorem ggX2_takeClap_X5_add : GoodIn wsX2_takeClap wsX5_add := goodIn_r _ [40, 21, 83] (by decide +kernel) (by decide +kernel)
set_option maxRecDepth 20000 in
theorem gX2_takeClap_X5_add : GoodIn wsX2_takeClap (wsV RX2 107 RX5 yX5_add wsX5_add) := goodIn_app (goodIn_of _ (by decide +kernel)) ggX2_takeClap_X5_add
set_option maxRecDepth 20000 in
theorem ggX2_takeClap_X2_bringEncore : GoodIn wsX2_takeClap wsX2_bringEncore := goodIn_r _ [51, 12, 52, 1, 3, 6, 53, 54, 55, 56, 57, 58, 59, 60, 61, 62, 38, 39, 19, 40, 21, 63, 43, 44, 45, 46, 64, 65, 66, 67, 68, 69, 70, 71, 72, 73, 74, 84, 85, 86, 87, 88, 89, 83] (by decide +kernel) (by decide +kernel)
set_option maxRecDepth 20000 in
theorem gX2_takeClap_X2_bringEncore : GoodIn wsX2_takeClap (wsV RX2 123 RX2 yX2_bringEncore wsX2_bringEncore) := goodIn_app (goodIn_of _ (by decide +kernel)) ggX2_takeClap_X2_bringEncore
theorem dX2_takeClap_0 : decode cX2_takeClap 0 = .ok (.iload_n 1, 1) := by decide +kernel
theorem dX2_takeClap_1 : decode cX2_takeClap 1 = .ok (.invokestatic 88, 3) := by decide +kernel
theorem dX2_takeClap_4 : decode cX2_takeClap 4 = .ok (.ifCond .ne 5, 3) := by decide +kernel
theorem dX2_takeClap_7 : decode cX2_takeClap 7 = .ok (.iconst (-1), 1) := by decide +kernel
theorem dX2_takeClap_8 : decode cX2_takeClap 8 = .ok (.ireturn, 1) := by decide +kernel
theorem dX2_takeClap_9 : decode cX2_takeClap 9 = .ok (.aload_n 0, 1) := by decide +kernel
theorem dX2_takeClap_10 : decode cX2_takeClap 10 = .ok (.getfield 40, 3) := by decide +kernel
theorem dX2_takeClap_13 : decode cX2_takeClap 13 = .ok (.bipush (-6), 2) := by decide +kernel
theorem dX2_takeClap_15 : decode cX2_takeClap 15 = .ok (.if_icmp .ne 6, 3) := by decide +kernel
theorem dX2_takeClap_18 : decode cX2_takeClap 18 = .ok (.bipush (-5), 2) := by decide +kernel
theorem dX2_takeClap_20 : decode cX2_takeClap 20 = .ok (.ireturn, 1) := by decide +kernel
theorem dX2_takeClap_21 : decode cX2_takeClap 21 = .ok (.aload_n 0, 1) := by decide +kernel
theorem dX2_takeClap_22 : decode cX2_takeClap 22 = .ok (.getfield 23, 3) := by decide +kernel
theorem dX2_takeClap_25 : decode cX2_takeClap 25 = .ok (.iload_n 1, 1) := by decide +kernel
theorem dX2_takeClap_26 : decode cX2_takeClap 26 = .ok (.aload_n 0, 1) := by decide +kernel
theorem dX2_takeClap_27 : decode cX2_takeClap 27 = .ok (.getfield 65, 3) := by decide +kernel
theorem dX2_takeClap_30 : decode cX2_takeClap 30 = .ok (.aload_n 0, 1) := by decide +kernel
theorem dX2_takeClap_31 : decode cX2_takeClap 31 = .ok (.getfield 71, 3) := by decide +kernel
theorem dX2_takeClap_34 : decode cX2_takeClap 34 = .ok (.isub, 1) := by decide +kernel
theorem dX2_takeClap_35 : decode cX2_takeClap 35 = .ok (.aload_n 0, 1) := by decide +kernel
theorem dX2_takeClap_36 : decode cX2_takeClap 36 = .ok (.getfield 14, 3) := by decide +kernel
theorem dX2_takeClap_39 : decode cX2_takeClap 39 = .ok (.iconst 3, 1) := by decide +kernel
theorem dX2_takeClap_40 : decode cX2_takeClap 40 = .ok (.invokevirtual 84, 3) := by decide +kernel
theorem dX2_takeClap_43 : decode cX2_takeClap 43 = .ok (.if_icmp .gt 7, 3) := by decide +kernel
theorem dX2_takeClap_46 : decode cX2_takeClap 46 = .ok (.iconst 1, 1) := by decide +kernel
theorem dX2_takeClap_47 : decode cX2_takeClap 47 = .ok (.goto 4, 3) := by decide +kernel
theorem dX2_takeClap_50 : decode cX2_takeClap 50 = .ok (.iconst 0, 1) := by decide +kernel
theorem dX2_takeClap_51 : decode cX2_takeClap 51 = .ok (.invokevirtual 113, 3) := by decide +kernel
theorem dX2_takeClap_54 : decode cX2_takeClap 54 = .ok (.aload_n 0, 1) := by decide +kernel
theorem dX2_takeClap_55 : decode cX2_takeClap 55 = .ok (.getfield 34, 3) := by decide +kernel
theorem dX2_takeClap_58 : decode cX2_takeClap 58 = .ok (.iconst 0, 1) := by decide +kernel
theorem dX2_takeClap_59 : decode cX2_takeClap 59 = .ok (.iconst 1, 1) := by decide +kernel
theorem dX2_takeClap_60 : decode cX2_takeClap 60 = .ok (.invokevirtual 107, 3) := by decide +kernel
theorem dX2_takeClap_63 : decode cX2_takeClap 63 = .ok (.aload_n 0, 1) := by decide +kernel
theorem dX2_takeClap_64 : decode cX2_takeClap 64 = .ok (.aload_n 0, 1) := by decide +kernel
theorem dX2_takeClap_65 : decode cX2_takeClap 65 = .ok (.getfield 62, 3) := by decide +kernel
theorem dX2_takeClap_68 : decode cX2_takeClap 68 = .ok (.bipush 10, 2) := by decide +kernel
theorem dX2_takeClap_70 : decode cX2_takeClap 70 = .ok (.aload_n 0, 1) := by decide +kernel
theorem dX2_takeClap_71 : decode cX2_takeClap 71 = .ok (.getfield 23, 3) := by decide +kernel
theorem dX2_takeClap_74 : decode cX2_takeClap 74 = .ok (.getfield 92, 3) := by decide +kernel
theorem dX2_takeClap_77 : decode cX2_takeClap 77 = .ok (.iload_n 1, 1) := by decide +kernel
theorem dX2_takeClap_78 : decode cX2_takeClap 78 = .ok (.invokevirtual 84, 3) := by decide +kernel
theorem dX2_takeClap_81 : decode cX2_takeClap 81 = .ok (.imul, 1) := by decide +kernel
theorem dX2_takeClap_82 : decode cX2_takeClap 82 = .ok (.iadd, 1) := by decide +kernel
theorem dX2_takeClap_83 : decode cX2_takeClap 83 = .ok (.sipush 9999, 3) := by decide +kernel
theorem dX2_takeClap_86 : decode cX2_takeClap 86 = .ok (.invokestatic 117, 3) := by decide +kernel
theorem dX2_takeClap_89 : decode cX2_takeClap 89 = .ok (.putfield 62, 3) := by decide +kernel
theorem dX2_takeClap_92 : decode cX2_takeClap 92 = .ok (.aload_n 0, 1) := by decide +kernel
theorem dX2_takeClap_93 : decode cX2_takeClap 93 = .ok (.getfield 62, 3) := by decide +kernel
theorem dX2_takeClap_96 : decode cX2_takeClap 96 = .ok (.aload_n 0, 1) := by decide +kernel
theorem dX2_takeClap_97 : decode cX2_takeClap 97 = .ok (.getfield 14, 3) := by decide +kernel
theorem dX2_takeClap_100 : decode cX2_takeClap 100 = .ok (.iconst 1, 1) := by decide +kernel
theorem dX2_takeClap_101 : decode cX2_takeClap 101 = .ok (.invokevirtual 84, 3) := by decide +kernel
theorem dX2_takeClap_104 : decode cX2_takeClap 104 = .ok (.if_icmp .lt 14, 3) := by decide +kernel
theorem dX2_takeClap_107 : decode cX2_takeClap 107 = .ok (.aload_n 0, 1) := by decide +kernel
theorem dX2_takeClap_108 : decode cX2_takeClap 108 = .ok (.getfield 74, 3) := by decide +kernel
theorem dX2_takeClap_111 : decode cX2_takeClap 111 = .ok (.ifCond .ne 7, 3) := by decide +kernel
theorem dX2_takeClap_114 : decode cX2_takeClap 114 = .ok (.aload_n 0, 1) := by decide +kernel
theorem dX2_takeClap_115 : decode cX2_takeClap 115 = .ok (.invokevirtual 123, 3) := by decide +kernel
theorem dX2_takeClap_118 : decode cX2_takeClap 118 = .ok (.aload_n 0, 1) := by decide +kernel
theorem dX2_takeClap_119 : decode cX2_takeClap 119 = .ok (.getfield 62, 3) := by decide +kernel
theorem dX2_takeClap_122 : decode cX2_takeClap 122 = .ok (.ireturn, 1) := by decide +kernel
set_option maxRecDepth 20000 in
theorem ggX2_bringEncore_X0_owe : GoodIn wsX2_bringEncore wsX0_owe := goodIn_r _ [10, 11, 12, 13, 14, 15, 16, 17, 18, 19, 20, 21, 22, 23, 24, 37, 38, 39, 40, 41, 42, 43] (by decide +kernel) (by decide +kernel)
set_option maxRecDepth 20000 in
theorem gX2_bringEncore_X0_owe : GoodIn wsX2_bringEncore (wsV RX2 126 RX0 yX0_owe wsX0_owe) := goodIn_app (goodIn_of _ (by decide +kernel)) ggX2_bringEncore_X0_owe
set_option maxRecDepth 20000 in
theorem ggX2_bringEncore_X5_add : GoodIn wsX2_bringEncore wsX5_add := goodIn_r _ [19, 20, 43] (by decide +kernel) (by decide +kernel)
set_option maxRecDepth 20000 in
theorem gX2_bringEncore_X5_add : GoodIn wsX2_bringEncore (wsV RX2 107 RX5 yX5_add wsX5_add) := goodIn_app (goodIn_of _ (by decide +kernel)) ggX2_bringEncore_X5_add
theorem dX2_bringEncore_0 : decode cX2_bringEncore 0 = .ok (.aload_n 0, 1) := by decide +kernel
theorem dX2_bringEncore_1 : decode cX2_bringEncore 1 = .ok (.iconst 1, 1) := by decide +kernel
theorem dX2_bringEncore_2 : decode cX2_bringEncore 2 = .ok (.putfield 74, 3) := by decide +kernel
theorem dX2_bringEncore_5 : decode cX2_bringEncore 5 = .ok (.aload_n 0, 1) := by decide +kernel
theorem dX2_bringEncore_6 : decode cX2_bringEncore 6 = .ok (.getfield 30, 3) := by decide +kernel
theorem dX2_bringEncore_9 : decode cX2_bringEncore 9 = .ok (.aload_n 0, 1) := by decide +kernel
theorem dX2_bringEncore_10 : decode cX2_bringEncore 10 = .ok (.getfield 40, 3) := by decide +kernel
theorem dX2_bringEncore_13 : decode cX2_bringEncore 13 = .ok (.aload_n 0, 1) := by decide +kernel
theorem dX2_bringEncore_14 : decode cX2_bringEncore 14 = .ok (.getfield 65, 3) := by decide +kernel
theorem dX2_bringEncore_17 : decode cX2_bringEncore 17 = .ok (.invokevirtual 126, 3) := by decide +kernel
theorem dX2_bringEncore_20 : decode cX2_bringEncore 20 = .ok (.ifCond .ne 12, 3) := by decide +kernel
theorem dX2_bringEncore_23 : decode cX2_bringEncore 23 = .ok (.aload_n 0, 1) := by decide +kernel
theorem dX2_bringEncore_24 : decode cX2_bringEncore 24 = .ok (.getfield 34, 3) := by decide +kernel
theorem dX2_bringEncore_27 : decode cX2_bringEncore 27 = .ok (.iconst 2, 1) := by decide +kernel
theorem dX2_bringEncore_28 : decode cX2_bringEncore 28 = .ok (.iconst 1, 1) := by decide +kernel
theorem dX2_bringEncore_29 : decode cX2_bringEncore 29 = .ok (.invokevirtual 107, 3) := by decide +kernel
theorem dX2_bringEncore_32 : decode cX2_bringEncore 32 = .ok (.return_, 1) := by decide +kernel
set_option maxRecDepth 20000 in
theorem ggX2_letPass_X5_at : GoodIn wsX2_letPass wsX5_at := goodIn_r _ [11, 12, 50] (by decide +kernel) (by decide +kernel)
set_option maxRecDepth 20000 in
theorem gX2_letPass_X5_at : GoodIn wsX2_letPass (wsV RX2 84 RX5 yX5_at wsX5_at) := goodIn_app (goodIn_of _ (by decide +kernel)) ggX2_letPass_X5_at
set_option maxRecDepth 20000 in
theorem ggX2_letPass_X7_afterSecond : GoodIn wsX2_letPass wsX7_afterSecond := goodIn_r _ [15, 16, 17, 18, 19] (by decide +kernel) (by decide +kernel)
set_option maxRecDepth 20000 in
theorem gX2_letPass_X7_afterSecond_n131 : GoodIn wsX2_letPass (wsX7_afterSecond) := ggX2_letPass_X7_afterSecond
set_option maxRecDepth 20000 in
theorem ggX2_letPass_X0_lapseSince : GoodIn wsX2_letPass wsX0_lapseSince := goodIn_r _ [24, 25, 26, 27, 28, 29, 8, 9, 10, 11, 12, 30, 31, 32, 33, 34, 35, 36, 37, 51, 52, 53, 54, 55, 56, 50] (by decide +kernel) (by decide +kernel)
set_option maxRecDepth 20000 in
theorem gX2_letPass_X0_lapseSince : GoodIn wsX2_letPass (wsV RX2 134 RX0 yX0_lapseSince wsX0_lapseSince) := goodIn_app (goodIn_of _ (by decide +kernel)) ggX2_letPass_X0_lapseSince
set_option maxRecDepth 20000 in
theorem ggX2_letPass_X5_add : GoodIn wsX2_letPass wsX5_add := goodIn_r _ [33, 12, 50] (by decide +kernel) (by decide +kernel)
set_option maxRecDepth 20000 in
theorem gX2_letPass_X5_add : GoodIn wsX2_letPass (wsV RX2 107 RX5 yX5_add wsX5_add) := goodIn_app (goodIn_of _ (by decide +kernel)) ggX2_letPass_X5_add
theorem dX2_letPass_0 : decode cX2_letPass 0 = .ok (.iload_n 1, 1) := by decide +kernel
theorem dX2_letPass_1 : decode cX2_letPass 1 = .ok (.iconst 1, 1) := by decide +kernel
theorem dX2_letPass_2 : decode cX2_letPass 2 = .ok (.if_icmp .lt 9, 3) := by decide +kernel
theorem dX2_letPass_5 : decode cX2_letPass 5 = .ok (.iload_n 1, 1) := by decide +kernel
theorem dX2_letPass_6 : decode cX2_letPass 6 = .ok (.bipush 99, 2) := by decide +kernel
theorem dX2_letPass_8 : decode cX2_letPass 8 = .ok (.if_icmp .le 6, 3) := by decide +kernel
theorem dX2_letPass_11 : decode cX2_letPass 11 = .ok (.bipush (-2), 2) := by decide +kernel
theorem dX2_letPass_13 : decode cX2_letPass 13 = .ok (.ireturn, 1) := by decide +kernel
theorem dX2_letPass_14 : decode cX2_letPass 14 = .ok (.aload_n 0, 1) := by decide +kernel
theorem dX2_letPass_15 : decode cX2_letPass 15 = .ok (.getfield 65, 3) := by decide +kernel
theorem dX2_letPass_18 : decode cX2_letPass 18 = .ok (.ldc 130, 2) := by decide +kernel
theorem dX2_letPass_20 : decode cX2_letPass 20 = .ok (.iload_n 1, 1) := by decide +kernel
theorem dX2_letPass_21 : decode cX2_letPass 21 = .ok (.isub, 1) := by decide +kernel
theorem dX2_letPass_22 : decode cX2_letPass 22 = .ok (.if_icmp .le 6, 3) := by decide +kernel
theorem dX2_letPass_25 : decode cX2_letPass 25 = .ok (.bipush (-5), 2) := by decide +kernel
theorem dX2_letPass_27 : decode cX2_letPass 27 = .ok (.ireturn, 1) := by decide +kernel
theorem dX2_letPass_28 : decode cX2_letPass 28 = .ok (.iconst 0, 1) := by decide +kernel
theorem dX2_letPass_29 : decode cX2_letPass 29 = .ok (.istore_n 2, 1) := by decide +kernel
theorem dX2_letPass_30 : decode cX2_letPass 30 = .ok (.iload_n 2, 1) := by decide +kernel
theorem dX2_letPass_31 : decode cX2_letPass 31 = .ok (.iload_n 1, 1) := by decide +kernel
theorem dX2_letPass_32 : decode cX2_letPass 32 = .ok (.if_icmp .ge 66, 3) := by decide +kernel
theorem dX2_letPass_35 : decode cX2_letPass 35 = .ok (.aload_n 0, 1) := by decide +kernel
theorem dX2_letPass_36 : decode cX2_letPass 36 = .ok (.aload_n 0, 1) := by decide +kernel
theorem dX2_letPass_37 : decode cX2_letPass 37 = .ok (.getfield 62, 3) := by decide +kernel
theorem dX2_letPass_40 : decode cX2_letPass 40 = .ok (.aload_n 0, 1) := by decide +kernel
theorem dX2_letPass_41 : decode cX2_letPass 41 = .ok (.getfield 14, 3) := by decide +kernel
theorem dX2_letPass_44 : decode cX2_letPass 44 = .ok (.iconst 0, 1) := by decide +kernel
theorem dX2_letPass_45 : decode cX2_letPass 45 = .ok (.invokevirtual 84, 3) := by decide +kernel
theorem dX2_letPass_48 : decode cX2_letPass 48 = .ok (.invokestatic 131, 3) := by decide +kernel
theorem dX2_letPass_51 : decode cX2_letPass 51 = .ok (.putfield 62, 3) := by decide +kernel
theorem dX2_letPass_54 : decode cX2_letPass 54 = .ok (.aload_n 0, 1) := by decide +kernel
theorem dX2_letPass_55 : decode cX2_letPass 55 = .ok (.dup, 1) := by decide +kernel
theorem dX2_letPass_56 : decode cX2_letPass 56 = .ok (.getfield 65, 3) := by decide +kernel
theorem dX2_letPass_59 : decode cX2_letPass 59 = .ok (.iconst 1, 1) := by decide +kernel
theorem dX2_letPass_60 : decode cX2_letPass 60 = .ok (.iadd, 1) := by decide +kernel
theorem dX2_letPass_61 : decode cX2_letPass 61 = .ok (.putfield 65, 3) := by decide +kernel
theorem dX2_letPass_64 : decode cX2_letPass 64 = .ok (.aload_n 0, 1) := by decide +kernel
theorem dX2_letPass_65 : decode cX2_letPass 65 = .ok (.getfield 34, 3) := by decide +kernel
theorem dX2_letPass_68 : decode cX2_letPass 68 = .ok (.iconst 2, 1) := by decide +kernel
theorem dX2_letPass_69 : decode cX2_letPass 69 = .ok (.aload_n 0, 1) := by decide +kernel
theorem dX2_letPass_70 : decode cX2_letPass 70 = .ok (.getfield 30, 3) := by decide +kernel
theorem dX2_letPass_73 : decode cX2_letPass 73 = .ok (.aload_n 0, 1) := by decide +kernel
theorem dX2_letPass_74 : decode cX2_letPass 74 = .ok (.getfield 65, 3) := by decide +kernel
theorem dX2_letPass_77 : decode cX2_letPass 77 = .ok (.aload_n 0, 1) := by decide +kernel
theorem dX2_letPass_78 : decode cX2_letPass 78 = .ok (.getfield 14, 3) := by decide +kernel
theorem dX2_letPass_81 : decode cX2_letPass 81 = .ok (.iconst 2, 1) := by decide +kernel
theorem dX2_letPass_82 : decode cX2_letPass 82 = .ok (.invokevirtual 84, 3) := by decide +kernel
theorem dX2_letPass_85 : decode cX2_letPass 85 = .ok (.isub, 1) := by decide +kernel
theorem dX2_letPass_86 : decode cX2_letPass 86 = .ok (.invokevirtual 134, 3) := by decide +kernel
theorem dX2_letPass_89 : decode cX2_letPass 89 = .ok (.invokevirtual 107, 3) := by decide +kernel
theorem dX2_letPass_92 : decode cX2_letPass 92 = .ok (.iinc 2 1, 3) := by decide +kernel
theorem dX2_letPass_95 : decode cX2_letPass 95 = .ok (.goto (-65), 3) := by decide +kernel
theorem dX2_letPass_98 : decode cX2_letPass 98 = .ok (.aload_n 0, 1) := by decide +kernel
theorem dX2_letPass_99 : decode cX2_letPass 99 = .ok (.getfield 62, 3) := by decide +kernel
theorem dX2_letPass_102 : decode cX2_letPass 102 = .ok (.ireturn, 1) := by decide +kernel
set_option maxRecDepth 20000 in
theorem ggX2_playEncore_X7_isPerformer : GoodIn wsX2_playEncore wsX7_isPerformer := goodIn_r _ [5] (by decide +kernel) (by decide +kernel)
set_option maxRecDepth 20000 in
theorem gX2_playEncore_X7_isPerformer_n98 : GoodIn wsX2_playEncore (wsX7_isPerformer) := ggX2_playEncore_X7_isPerformer
set_option maxRecDepth 20000 in
theorem ggX2_playEncore_X0_playEarliestOf : GoodIn wsX2_playEncore wsX0_playEarliestOf := goodIn_r _ [10, 11, 12, 13, 14, 15, 16, 17, 9, 18, 19, 20, 21, 22, 23, 24, 25, 26, 27, 28, 29, 30, 31, 32, 66, 67, 68, 69, 70, 71, 72] (by decide +kernel) (by decide +kernel)
set_option maxRecDepth 20000 in
theorem gX2_playEncore_X0_playEarliestOf : GoodIn wsX2_playEncore (wsV RX2 137 RX0 yX0_playEarliestOf wsX0_playEarliestOf) := goodIn_app (goodIn_of _ (by decide +kernel)) ggX2_playEncore_X0_playEarliestOf
set_option maxRecDepth 20000 in
theorem ggX2_playEncore_X5_add : GoodIn wsX2_playEncore wsX5_add := goodIn_r _ [32, 24, 72] (by decide +kernel) (by decide +kernel)
set_option maxRecDepth 20000 in
theorem gX2_playEncore_X5_add : GoodIn wsX2_playEncore (wsV RX2 107 RX5 yX5_add wsX5_add) := goodIn_app (goodIn_of _ (by decide +kernel)) ggX2_playEncore_X5_add
set_option maxRecDepth 20000 in
theorem ggX2_playEncore_X2_beginApplause : GoodIn wsX2_playEncore wsX2_beginApplause := goodIn_r _ [38, 1, 39, 40, 41, 42, 43, 44, 33, 30, 31, 22, 32, 24, 45, 46, 47, 48, 49, 50, 55, 56, 57, 58, 59, 60, 61, 62, 63, 64, 65, 66, 67, 68, 69, 70, 71, 72, 73, 74, 75, 76, 77, 78, 79, 80] (by decide +kernel) (by decide +kernel)
set_option maxRecDepth 20000 in
theorem gX2_playEncore_X2_beginApplause : GoodIn wsX2_playEncore (wsV RX2 101 RX2 yX2_beginApplause wsX2_beginApplause) := goodIn_app (goodIn_of _ (by decide +kernel)) ggX2_playEncore_X2_beginApplause
set_option maxRecDepth 20000 in
theorem ggX2_playEncore_X0_owedBy : GoodIn wsX2_playEncore wsX0_owedBy := goodIn_r _ [54, 11, 12, 19, 20, 21, 22, 23, 24, 66, 67, 68, 69, 70, 71, 72] (by decide +kernel) (by decide +kernel)
set_option maxRecDepth 20000 in
theorem gX2_playEncore_X0_owedBy : GoodIn wsX2_playEncore (wsV RX2 140 RX0 yX0_owedBy wsX0_owedBy) := goodIn_app (goodIn_of _ (by decide +kernel)) ggX2_playEncore_X0_owedBy
theorem dX2_playEncore_0 : decode cX2_playEncore 0 = .ok (.iload_n 1, 1) := by decide +kernel
theorem dX2_playEncore_1 : decode cX2_playEncore 1 = .ok (.invokestatic 98, 3) := by decide +kernel
theorem dX2_playEncore_4 : decode cX2_playEncore 4 = .ok (.ifCond .ne 5, 3) := by decide +kernel
theorem dX2_playEncore_7 : decode cX2_playEncore 7 = .ok (.iconst (-1), 1) := by decide +kernel
theorem dX2_playEncore_8 : decode cX2_playEncore 8 = .ok (.ireturn, 1) := by decide +kernel
theorem dX2_playEncore_9 : decode cX2_playEncore 9 = .ok (.aload_n 0, 1) := by decide +kernel
theorem dX2_playEncore_10 : decode cX2_playEncore 10 = .ok (.getfield 30, 3) := by decide +kernel
theorem dX2_playEncore_13 : decode cX2_playEncore 13 = .ok (.iload_n 1, 1) := by decide +kernel
theorem dX2_playEncore_14 : decode cX2_playEncore 14 = .ok (.invokevirtual 137, 3) := by decide +kernel
theorem dX2_playEncore_17 : decode cX2_playEncore 17 = .ok (.ifCond .ne 6, 3) := by decide +kernel
theorem dX2_playEncore_20 : decode cX2_playEncore 20 = .ok (.bipush (-5), 2) := by decide +kernel
theorem dX2_playEncore_22 : decode cX2_playEncore 22 = .ok (.ireturn, 1) := by decide +kernel
theorem dX2_playEncore_23 : decode cX2_playEncore 23 = .ok (.aload_n 0, 1) := by decide +kernel
theorem dX2_playEncore_24 : decode cX2_playEncore 24 = .ok (.getfield 34, 3) := by decide +kernel
theorem dX2_playEncore_27 : decode cX2_playEncore 27 = .ok (.iconst 1, 1) := by decide +kernel
theorem dX2_playEncore_28 : decode cX2_playEncore 28 = .ok (.iconst 1, 1) := by decide +kernel
theorem dX2_playEncore_29 : decode cX2_playEncore 29 = .ok (.invokevirtual 107, 3) := by decide +kernel
theorem dX2_playEncore_32 : decode cX2_playEncore 32 = .ok (.aload_n 0, 1) := by decide +kernel
theorem dX2_playEncore_33 : decode cX2_playEncore 33 = .ok (.iload_n 1, 1) := by decide +kernel
theorem dX2_playEncore_34 : decode cX2_playEncore 34 = .ok (.invokevirtual 101, 3) := by decide +kernel
theorem dX2_playEncore_37 : decode cX2_playEncore 37 = .ok (.aload_n 0, 1) := by decide +kernel
theorem dX2_playEncore_38 : decode cX2_playEncore 38 = .ok (.getfield 30, 3) := by decide +kernel
theorem dX2_playEncore_41 : decode cX2_playEncore 41 = .ok (.iload_n 1, 1) := by decide +kernel
theorem dX2_playEncore_42 : decode cX2_playEncore 42 = .ok (.invokevirtual 140, 3) := by decide +kernel
theorem dX2_playEncore_45 : decode cX2_playEncore 45 = .ok (.ireturn, 1) := by decide +kernel
set_option maxRecDepth 20000 in
theorem ggX2_takeCurtain_X5_at : GoodIn wsX2_takeCurtain wsX5_at := goodIn_r _ [8, 9, 25] (by decide +kernel) (by decide +kernel)
set_option maxRecDepth 20000 in
theorem gX2_takeCurtain_X5_at : GoodIn wsX2_takeCurtain (wsV RX2 84 RX5 yX5_at wsX5_at) := goodIn_app (goodIn_of _ (by decide +kernel)) ggX2_takeCurtain_X5_at
set_option maxRecDepth 20000 in
theorem ggX2_takeCurtain_X5_add : GoodIn wsX2_takeCurtain wsX5_add := goodIn_r _ [13, 9, 25] (by decide +kernel) (by decide +kernel)
set_option maxRecDepth 20000 in
theorem gX2_takeCurtain_X5_add : GoodIn wsX2_takeCurtain (wsV RX2 107 RX5 yX5_add wsX5_add) := goodIn_app (goodIn_of _ (by decide +kernel)) ggX2_takeCurtain_X5_add
theorem dX2_takeCurtain_0 : decode cX2_takeCurtain 0 = .ok (.aload_n 0, 1) := by decide +kernel
theorem dX2_takeCurtain_1 : decode cX2_takeCurtain 1 = .ok (.getfield 62, 3) := by decide +kernel
theorem dX2_takeCurtain_4 : decode cX2_takeCurtain 4 = .ok (.aload_n 0, 1) := by decide +kernel
theorem dX2_takeCurtain_5 : decode cX2_takeCurtain 5 = .ok (.getfield 14, 3) := by decide +kernel
theorem dX2_takeCurtain_8 : decode cX2_takeCurtain 8 = .ok (.iconst 5, 1) := by decide +kernel
theorem dX2_takeCurtain_9 : decode cX2_takeCurtain 9 = .ok (.invokevirtual 84, 3) := by decide +kernel
theorem dX2_takeCurtain_12 : decode cX2_takeCurtain 12 = .ok (.if_icmp .ge 6, 3) := by decide +kernel
theorem dX2_takeCurtain_15 : decode cX2_takeCurtain 15 = .ok (.bipush (-5), 2) := by decide +kernel
theorem dX2_takeCurtain_17 : decode cX2_takeCurtain 17 = .ok (.ireturn, 1) := by decide +kernel
theorem dX2_takeCurtain_18 : decode cX2_takeCurtain 18 = .ok (.aload_n 0, 1) := by decide +kernel
theorem dX2_takeCurtain_19 : decode cX2_takeCurtain 19 = .ok (.dup, 1) := by decide +kernel
theorem dX2_takeCurtain_20 : decode cX2_takeCurtain 20 = .ok (.getfield 62, 3) := by decide +kernel
theorem dX2_takeCurtain_23 : decode cX2_takeCurtain 23 = .ok (.iconst 2, 1) := by decide +kernel
theorem dX2_takeCurtain_24 : decode cX2_takeCurtain 24 = .ok (.idiv, 1) := by decide +kernel
theorem dX2_takeCurtain_25 : decode cX2_takeCurtain 25 = .ok (.putfield 62, 3) := by decide +kernel
theorem dX2_takeCurtain_28 : decode cX2_takeCurtain 28 = .ok (.aload_n 0, 1) := by decide +kernel
theorem dX2_takeCurtain_29 : decode cX2_takeCurtain 29 = .ok (.getfield 34, 3) := by decide +kernel
theorem dX2_takeCurtain_32 : decode cX2_takeCurtain 32 = .ok (.iconst 3, 1) := by decide +kernel
theorem dX2_takeCurtain_33 : decode cX2_takeCurtain 33 = .ok (.iconst 1, 1) := by decide +kernel
theorem dX2_takeCurtain_34 : decode cX2_takeCurtain 34 = .ok (.invokevirtual 107, 3) := by decide +kernel
theorem dX2_takeCurtain_37 : decode cX2_takeCurtain 37 = .ok (.aload_n 0, 1) := by decide +kernel
theorem dX2_takeCurtain_38 : decode cX2_takeCurtain 38 = .ok (.getfield 62, 3) := by decide +kernel
theorem dX2_takeCurtain_41 : decode cX2_takeCurtain 41 = .ok (.ireturn, 1) := by decide +kernel
set_option maxRecDepth 20000 in
theorem ggX2_endNight_X0_lapseSince : GoodIn wsX2_endNight wsX0_lapseSince := goodIn_r _ [13, 14, 15, 16, 17, 18, 19, 20, 21, 22, 23, 24, 25, 26, 27, 28, 29, 30, 31, 63, 64, 65, 66, 67, 68, 69] (by decide +kernel) (by decide +kernel)
set_option maxRecDepth 20000 in
theorem gX2_endNight_X0_lapseSince : GoodIn wsX2_endNight (wsV RX2 134 RX0 yX0_lapseSince wsX0_lapseSince) := goodIn_app (goodIn_of _ (by decide +kernel)) ggX2_endNight_X0_lapseSince
set_option maxRecDepth 20000 in
theorem ggX2_endNight_X5_add : GoodIn wsX2_endNight wsX5_add := goodIn_r _ [27, 23, 69] (by decide +kernel) (by decide +kernel)
set_option maxRecDepth 20000 in
theorem gX2_endNight_X5_add : GoodIn wsX2_endNight (wsV RX2 107 RX5 yX5_add wsX5_add) := goodIn_app (goodIn_of _ (by decide +kernel)) ggX2_endNight_X5_add
set_option maxRecDepth 20000 in
theorem ggX2_endNight_X2_recordPlace : GoodIn wsX2_endNight wsX2_recordPlace := goodIn_r _ [36] (by decide +kernel) (by decide +kernel)
set_option maxRecDepth 20000 in
theorem gX2_endNight_X2_recordPlace : GoodIn wsX2_endNight (va_wsS RX2 143 yX2_recordPlace wsX2_recordPlace) := goodIn_app (goodIn_of _ (by decide +kernel)) ggX2_endNight_X2_recordPlace
set_option maxRecDepth 20000 in
theorem ggX2_endNight_X5_at : GoodIn wsX2_endNight wsX5_at := goodIn_r _ [22, 23, 69] (by decide +kernel) (by decide +kernel)
set_option maxRecDepth 20000 in
theorem gX2_endNight_X5_at : GoodIn wsX2_endNight (wsV RX2 84 RX5 yX5_at wsX5_at) := goodIn_app (goodIn_of _ (by decide +kernel)) ggX2_endNight_X5_at
set_option maxRecDepth 20000 in
theorem ggX2_endNight_X5_store : GoodIn wsX2_endNight wsX5_store := goodIn_r _ [31, 23, 69] (by decide +kernel) (by decide +kernel)
set_option maxRecDepth 20000 in
theorem gX2_endNight_X5_store : GoodIn wsX2_endNight (wsV RX2 48 RX5 yX5_store wsX5_store) := goodIn_app (goodIn_of _ (by decide +kernel)) ggX2_endNight_X5_store
set_option maxRecDepth 20000 in
theorem ggX2_endNight_X5_fill : GoodIn wsX2_endNight wsX5_fill := goodIn_r _ [42, 23, 69] (by decide +kernel) (by decide +kernel)
set_option maxRecDepth 20000 in
theorem gX2_endNight_X5_fill : GoodIn wsX2_endNight (wsV RX2 146 RX5 yX5_fill wsX5_fill) := goodIn_app (goodIn_of _ (by decide +kernel)) ggX2_endNight_X5_fill
set_option maxRecDepth 20000 in
theorem ggX2_endNight_X6_beginNight : GoodIn wsX2_endNight wsX6_beginNight := goodIn_r _ [47, 48, 49, 50, 51, 40, 41, 21, 42, 23, 70, 71, 72, 73, 74, 75, 76, 77, 69] (by decide +kernel) (by decide +kernel)
set_option maxRecDepth 20000 in
theorem gX2_endNight_X6_beginNight : GoodIn wsX2_endNight (wsV RX2 149 RX6 yX6_beginNight wsX6_beginNight) := goodIn_app (goodIn_of _ (by decide +kernel)) ggX2_endNight_X6_beginNight
theorem dX2_endNight_0 : decode cX2_endNight 0 = .ok (.aload_n 0, 1) := by decide +kernel
theorem dX2_endNight_1 : decode cX2_endNight 1 = .ok (.getfield 68, 3) := by decide +kernel
theorem dX2_endNight_4 : decode cX2_endNight 4 = .ok (.bipush 99, 2) := by decide +kernel
theorem dX2_endNight_6 : decode cX2_endNight 6 = .ok (.if_icmp .lt 6, 3) := by decide +kernel
theorem dX2_endNight_9 : decode cX2_endNight 9 = .ok (.bipush (-5), 2) := by decide +kernel
theorem dX2_endNight_11 : decode cX2_endNight 11 = .ok (.ireturn, 1) := by decide +kernel
theorem dX2_endNight_12 : decode cX2_endNight 12 = .ok (.aload_n 0, 1) := by decide +kernel
theorem dX2_endNight_13 : decode cX2_endNight 13 = .ok (.getfield 30, 3) := by decide +kernel
theorem dX2_endNight_16 : decode cX2_endNight 16 = .ok (.aload_n 0, 1) := by decide +kernel
theorem dX2_endNight_17 : decode cX2_endNight 17 = .ok (.getfield 65, 3) := by decide +kernel
theorem dX2_endNight_20 : decode cX2_endNight 20 = .ok (.invokevirtual 134, 3) := by decide +kernel
theorem dX2_endNight_23 : decode cX2_endNight 23 = .ok (.istore_n 1, 1) := by decide +kernel
theorem dX2_endNight_24 : decode cX2_endNight 24 = .ok (.aload_n 0, 1) := by decide +kernel
theorem dX2_endNight_25 : decode cX2_endNight 25 = .ok (.getfield 34, 3) := by decide +kernel
theorem dX2_endNight_28 : decode cX2_endNight 28 = .ok (.iconst 2, 1) := by decide +kernel
theorem dX2_endNight_29 : decode cX2_endNight 29 = .ok (.iload_n 1, 1) := by decide +kernel
theorem dX2_endNight_30 : decode cX2_endNight 30 = .ok (.invokevirtual 107, 3) := by decide +kernel
theorem dX2_endNight_33 : decode cX2_endNight 33 = .ok (.iconst 0, 1) := by decide +kernel
theorem dX2_endNight_34 : decode cX2_endNight 34 = .ok (.istore_n 2, 1) := by decide +kernel
theorem dX2_endNight_35 : decode cX2_endNight 35 = .ok (.iload_n 2, 1) := by decide +kernel
theorem dX2_endNight_36 : decode cX2_endNight 36 = .ok (.iconst 4, 1) := by decide +kernel
theorem dX2_endNight_37 : decode cX2_endNight 37 = .ok (.if_icmp .ge 32, 3) := by decide +kernel
theorem dX2_endNight_40 : decode cX2_endNight 40 = .ok (.aload_n 0, 1) := by decide +kernel
theorem dX2_endNight_41 : decode cX2_endNight 41 = .ok (.getfield 37, 3) := by decide +kernel
theorem dX2_endNight_44 : decode cX2_endNight 44 = .ok (.aload_n 0, 1) := by decide +kernel
theorem dX2_endNight_45 : decode cX2_endNight 45 = .ok (.getfield 68, 3) := by decide +kernel
theorem dX2_endNight_48 : decode cX2_endNight 48 = .ok (.iload_n 2, 1) := by decide +kernel
theorem dX2_endNight_49 : decode cX2_endNight 49 = .ok (.invokestatic 143, 3) := by decide +kernel
theorem dX2_endNight_52 : decode cX2_endNight 52 = .ok (.aload_n 0, 1) := by decide +kernel
theorem dX2_endNight_53 : decode cX2_endNight 53 = .ok (.getfield 34, 3) := by decide +kernel
theorem dX2_endNight_56 : decode cX2_endNight 56 = .ok (.iload_n 2, 1) := by decide +kernel
theorem dX2_endNight_57 : decode cX2_endNight 57 = .ok (.invokevirtual 84, 3) := by decide +kernel
theorem dX2_endNight_60 : decode cX2_endNight 60 = .ok (.invokevirtual 48, 3) := by decide +kernel
theorem dX2_endNight_63 : decode cX2_endNight 63 = .ok (.iinc 2 1, 3) := by decide +kernel
theorem dX2_endNight_66 : decode cX2_endNight 66 = .ok (.goto (-31), 3) := by decide +kernel
theorem dX2_endNight_69 : decode cX2_endNight 69 = .ok (.aload_n 0, 1) := by decide +kernel
theorem dX2_endNight_70 : decode cX2_endNight 70 = .ok (.dup, 1) := by decide +kernel
theorem dX2_endNight_71 : decode cX2_endNight 71 = .ok (.getfield 68, 3) := by decide +kernel
theorem dX2_endNight_74 : decode cX2_endNight 74 = .ok (.iconst 1, 1) := by decide +kernel
theorem dX2_endNight_75 : decode cX2_endNight 75 = .ok (.iadd, 1) := by decide +kernel
theorem dX2_endNight_76 : decode cX2_endNight 76 = .ok (.putfield 68, 3) := by decide +kernel
theorem dX2_endNight_79 : decode cX2_endNight 79 = .ok (.aload_n 0, 1) := by decide +kernel
theorem dX2_endNight_80 : decode cX2_endNight 80 = .ok (.getfield 34, 3) := by decide +kernel
theorem dX2_endNight_83 : decode cX2_endNight 83 = .ok (.iconst 0, 1) := by decide +kernel
theorem dX2_endNight_84 : decode cX2_endNight 84 = .ok (.invokevirtual 146, 3) := by decide +kernel
theorem dX2_endNight_87 : decode cX2_endNight 87 = .ok (.aload_n 0, 1) := by decide +kernel
theorem dX2_endNight_88 : decode cX2_endNight 88 = .ok (.getfield 23, 3) := by decide +kernel
theorem dX2_endNight_91 : decode cX2_endNight 91 = .ok (.invokevirtual 149, 3) := by decide +kernel
theorem dX2_endNight_94 : decode cX2_endNight 94 = .ok (.aload_n 0, 1) := by decide +kernel
theorem dX2_endNight_95 : decode cX2_endNight 95 = .ok (.iconst 0, 1) := by decide +kernel
theorem dX2_endNight_96 : decode cX2_endNight 96 = .ok (.putfield 62, 3) := by decide +kernel
theorem dX2_endNight_99 : decode cX2_endNight 99 = .ok (.aload_n 0, 1) := by decide +kernel
theorem dX2_endNight_100 : decode cX2_endNight 100 = .ok (.bipush (-6), 2) := by decide +kernel
theorem dX2_endNight_102 : decode cX2_endNight 102 = .ok (.putfield 40, 3) := by decide +kernel
theorem dX2_endNight_105 : decode cX2_endNight 105 = .ok (.iload_n 1, 1) := by decide +kernel
theorem dX2_endNight_106 : decode cX2_endNight 106 = .ok (.ireturn, 1) := by decide +kernel
theorem dX2_recordPlace_0 : decode cX2_recordPlace 0 = .ok (.iload_n 0, 1) := by decide +kernel
theorem dX2_recordPlace_1 : decode cX2_recordPlace 1 = .ok (.bipush 6, 2) := by decide +kernel
theorem dX2_recordPlace_3 : decode cX2_recordPlace 3 = .ok (.irem, 1) := by decide +kernel
theorem dX2_recordPlace_4 : decode cX2_recordPlace 4 = .ok (.iconst 4, 1) := by decide +kernel
theorem dX2_recordPlace_5 : decode cX2_recordPlace 5 = .ok (.imul, 1) := by decide +kernel
theorem dX2_recordPlace_6 : decode cX2_recordPlace 6 = .ok (.iload_n 1, 1) := by decide +kernel
theorem dX2_recordPlace_7 : decode cX2_recordPlace 7 = .ok (.iadd, 1) := by decide +kernel
theorem dX2_recordPlace_8 : decode cX2_recordPlace 8 = .ok (.ireturn, 1) := by decide +kernel
set_option maxRecDepth 20000 in
theorem ggX2_writeBill_X5_at : GoodIn wsX2_writeBill wsX5_at := goodIn_r _ [7, 8, 40] (by decide +kernel) (by decide +kernel)
set_option maxRecDepth 20000 in
theorem gX2_writeBill_X5_at : GoodIn wsX2_writeBill (wsV RX2 84 RX5 yX5_at wsX5_at) := goodIn_app (goodIn_of _ (by decide +kernel)) ggX2_writeBill_X5_at
set_option maxRecDepth 20000 in
theorem ggX2_writeBill_X4_appendPart : GoodIn wsX2_writeBill wsX4_appendPart := goodIn_r _ [13, 14, 15, 16, 17, 12, 18, 19, 20, 41, 42] (by decide +kernel) (by decide +kernel)
set_option maxRecDepth 20000 in
theorem gX2_writeBill_X4_appendPart : GoodIn wsX2_writeBill (wsV RX2 152 RX4 yX4_appendPart wsX4_appendPart) := goodIn_app (goodIn_of _ (by decide +kernel)) ggX2_writeBill_X4_appendPart
set_option maxRecDepth 20000 in
theorem ggX2_writeBill_X0_owedBy : GoodIn wsX2_writeBill wsX0_owedBy := goodIn_r _ [25, 26, 27, 28, 4, 5, 6, 7, 8, 43, 44, 45, 46, 47, 48, 40] (by decide +kernel) (by decide +kernel)
set_option maxRecDepth 20000 in
theorem gX2_writeBill_X0_owedBy : GoodIn wsX2_writeBill (wsV RX2 140 RX0 yX0_owedBy wsX0_owedBy) := goodIn_app (goodIn_of _ (by decide +kernel)) ggX2_writeBill_X0_owedBy
theorem dX2_writeBill_0 : decode cX2_writeBill 0 = .ok (.aload_n 1, 1) := by decide +kernel
theorem dX2_writeBill_1 : decode cX2_writeBill 1 = .ok (.bipush 99, 2) := by decide +kernel
theorem dX2_writeBill_3 : decode cX2_writeBill 3 = .ok (.aload_n 0, 1) := by decide +kernel
theorem dX2_writeBill_4 : decode cX2_writeBill 4 = .ok (.getfield 34, 3) := by decide +kernel
theorem dX2_writeBill_7 : decode cX2_writeBill 7 = .ok (.iconst 0, 1) := by decide +kernel
theorem dX2_writeBill_8 : decode cX2_writeBill 8 = .ok (.invokevirtual 84, 3) := by decide +kernel
theorem dX2_writeBill_11 : decode cX2_writeBill 11 = .ok (.invokevirtual 152, 3) := by decide +kernel
theorem dX2_writeBill_14 : decode cX2_writeBill 14 = .ok (.aload_n 1, 1) := by decide +kernel
theorem dX2_writeBill_15 : decode cX2_writeBill 15 = .ok (.bipush 101, 2) := by decide +kernel
theorem dX2_writeBill_17 : decode cX2_writeBill 17 = .ok (.aload_n 0, 1) := by decide +kernel
theorem dX2_writeBill_18 : decode cX2_writeBill 18 = .ok (.getfield 34, 3) := by decide +kernel
theorem dX2_writeBill_21 : decode cX2_writeBill 21 = .ok (.iconst 1, 1) := by decide +kernel
theorem dX2_writeBill_22 : decode cX2_writeBill 22 = .ok (.invokevirtual 84, 3) := by decide +kernel
theorem dX2_writeBill_25 : decode cX2_writeBill 25 = .ok (.invokevirtual 152, 3) := by decide +kernel
theorem dX2_writeBill_28 : decode cX2_writeBill 28 = .ok (.aload_n 1, 1) := by decide +kernel
theorem dX2_writeBill_29 : decode cX2_writeBill 29 = .ok (.bipush 108, 2) := by decide +kernel
theorem dX2_writeBill_31 : decode cX2_writeBill 31 = .ok (.aload_n 0, 1) := by decide +kernel
theorem dX2_writeBill_32 : decode cX2_writeBill 32 = .ok (.getfield 34, 3) := by decide +kernel
theorem dX2_writeBill_35 : decode cX2_writeBill 35 = .ok (.iconst 2, 1) := by decide +kernel
theorem dX2_writeBill_36 : decode cX2_writeBill 36 = .ok (.invokevirtual 84, 3) := by decide +kernel
theorem dX2_writeBill_39 : decode cX2_writeBill 39 = .ok (.invokevirtual 152, 3) := by decide +kernel
theorem dX2_writeBill_42 : decode cX2_writeBill 42 = .ok (.aload_n 1, 1) := by decide +kernel
theorem dX2_writeBill_43 : decode cX2_writeBill 43 = .ok (.bipush 107, 2) := by decide +kernel
theorem dX2_writeBill_45 : decode cX2_writeBill 45 = .ok (.aload_n 0, 1) := by decide +kernel
theorem dX2_writeBill_46 : decode cX2_writeBill 46 = .ok (.getfield 34, 3) := by decide +kernel
theorem dX2_writeBill_49 : decode cX2_writeBill 49 = .ok (.iconst 3, 1) := by decide +kernel
theorem dX2_writeBill_50 : decode cX2_writeBill 50 = .ok (.invokevirtual 84, 3) := by decide +kernel
theorem dX2_writeBill_53 : decode cX2_writeBill 53 = .ok (.invokevirtual 152, 3) := by decide +kernel
theorem dX2_writeBill_56 : decode cX2_writeBill 56 = .ok (.iconst 0, 1) := by decide +kernel
theorem dX2_writeBill_57 : decode cX2_writeBill 57 = .ok (.istore_n 2, 1) := by decide +kernel
theorem dX2_writeBill_58 : decode cX2_writeBill 58 = .ok (.iload_n 2, 1) := by decide +kernel
theorem dX2_writeBill_59 : decode cX2_writeBill 59 = .ok (.bipush 6, 2) := by decide +kernel
theorem dX2_writeBill_61 : decode cX2_writeBill 61 = .ok (.if_icmp .ge 36, 3) := by decide +kernel
theorem dX2_writeBill_64 : decode cX2_writeBill 64 = .ok (.aload_n 0, 1) := by decide +kernel
theorem dX2_writeBill_65 : decode cX2_writeBill 65 = .ok (.getfield 30, 3) := by decide +kernel
theorem dX2_writeBill_68 : decode cX2_writeBill 68 = .ok (.iload_n 2, 1) := by decide +kernel
theorem dX2_writeBill_69 : decode cX2_writeBill 69 = .ok (.invokevirtual 140, 3) := by decide +kernel
theorem dX2_writeBill_72 : decode cX2_writeBill 72 = .ok (.istore_n 3, 1) := by decide +kernel
theorem dX2_writeBill_73 : decode cX2_writeBill 73 = .ok (.iload_n 3, 1) := by decide +kernel
theorem dX2_writeBill_74 : decode cX2_writeBill 74 = .ok (.ifCond .le 17, 3) := by decide +kernel
theorem dX2_writeBill_77 : decode cX2_writeBill 77 = .ok (.aload_n 1, 1) := by decide +kernel
theorem dX2_writeBill_78 : decode cX2_writeBill 78 = .ok (.bipush 44, 2) := by decide +kernel
theorem dX2_writeBill_80 : decode cX2_writeBill 80 = .ok (.iload_n 2, 1) := by decide +kernel
theorem dX2_writeBill_81 : decode cX2_writeBill 81 = .ok (.invokevirtual 152, 3) := by decide +kernel
theorem dX2_writeBill_84 : decode cX2_writeBill 84 = .ok (.aload_n 1, 1) := by decide +kernel
theorem dX2_writeBill_85 : decode cX2_writeBill 85 = .ok (.bipush 58, 2) := by decide +kernel
theorem dX2_writeBill_87 : decode cX2_writeBill 87 = .ok (.iload_n 3, 1) := by decide +kernel
theorem dX2_writeBill_88 : decode cX2_writeBill 88 = .ok (.invokevirtual 152, 3) := by decide +kernel
theorem dX2_writeBill_91 : decode cX2_writeBill 91 = .ok (.iinc 2 1, 3) := by decide +kernel
theorem dX2_writeBill_94 : decode cX2_writeBill 94 = .ok (.goto (-36), 3) := by decide +kernel
theorem dX2_writeBill_97 : decode cX2_writeBill 97 = .ok (.return_, 1) := by decide +kernel
set_option maxRecDepth 20000 in
theorem ggX2_aboutSeat_X7_isSeat : GoodIn wsX2_aboutSeat wsX7_isSeat := goodIn_r _ [5] (by decide +kernel) (by decide +kernel)
set_option maxRecDepth 20000 in
theorem gX2_aboutSeat_X7_isSeat_n88 : GoodIn wsX2_aboutSeat (wsX7_isSeat) := ggX2_aboutSeat_X7_isSeat
set_option maxRecDepth 20000 in
theorem ggX2_aboutSeat_X5_at : GoodIn wsX2_aboutSeat wsX5_at := goodIn_r _ [10, 11, 37] (by decide +kernel) (by decide +kernel)
set_option maxRecDepth 20000 in
theorem gX2_aboutSeat_X5_at : GoodIn wsX2_aboutSeat (wsV RX2 84 RX5 yX5_at wsX5_at) := goodIn_app (goodIn_of _ (by decide +kernel)) ggX2_aboutSeat_X5_at
set_option maxRecDepth 20000 in
theorem ggX2_aboutSeat_X6_hasClapped : GoodIn wsX2_aboutSeat wsX6_hasClapped := goodIn_r _ [16, 17, 29, 30, 31, 32, 33, 34, 35, 36] (by decide +kernel) (by decide +kernel)
set_option maxRecDepth 20000 in
theorem gX2_aboutSeat_X6_hasClapped : GoodIn wsX2_aboutSeat (wsV RX2 164 RX6 yX6_hasClapped wsX6_hasClapped) := goodIn_app (goodIn_of _ (by decide +kernel)) ggX2_aboutSeat_X6_hasClapped
theorem dX2_aboutSeat_0 : decode cX2_aboutSeat 0 = .ok (.iload_n 1, 1) := by decide +kernel
theorem dX2_aboutSeat_1 : decode cX2_aboutSeat 1 = .ok (.invokestatic 88, 3) := by decide +kernel
theorem dX2_aboutSeat_4 : decode cX2_aboutSeat 4 = .ok (.ifCond .ne 5, 3) := by decide +kernel
theorem dX2_aboutSeat_7 : decode cX2_aboutSeat 7 = .ok (.iconst (-1), 1) := by decide +kernel
theorem dX2_aboutSeat_8 : decode cX2_aboutSeat 8 = .ok (.ireturn, 1) := by decide +kernel
theorem dX2_aboutSeat_9 : decode cX2_aboutSeat 9 = .ok (.iload_n 2, 1) := by decide +kernel
theorem dX2_aboutSeat_10 : decode cX2_aboutSeat 10 = .ok (.tableswitch 147 0 6 #[42, 54, 66, 94, 106, 118, 135], 42) := by decide +kernel
theorem dX2_aboutSeat_52 : decode cX2_aboutSeat 52 = .ok (.aload_n 0, 1) := by decide +kernel
theorem dX2_aboutSeat_53 : decode cX2_aboutSeat 53 = .ok (.getfield 23, 3) := by decide +kernel
theorem dX2_aboutSeat_56 : decode cX2_aboutSeat 56 = .ok (.getfield 92, 3) := by decide +kernel
theorem dX2_aboutSeat_59 : decode cX2_aboutSeat 59 = .ok (.iload_n 1, 1) := by decide +kernel
theorem dX2_aboutSeat_60 : decode cX2_aboutSeat 60 = .ok (.invokevirtual 84, 3) := by decide +kernel
theorem dX2_aboutSeat_63 : decode cX2_aboutSeat 63 = .ok (.ireturn, 1) := by decide +kernel
theorem dX2_aboutSeat_64 : decode cX2_aboutSeat 64 = .ok (.aload_n 0, 1) := by decide +kernel
theorem dX2_aboutSeat_65 : decode cX2_aboutSeat 65 = .ok (.getfield 23, 3) := by decide +kernel
theorem dX2_aboutSeat_68 : decode cX2_aboutSeat 68 = .ok (.getfield 95, 3) := by decide +kernel
theorem dX2_aboutSeat_71 : decode cX2_aboutSeat 71 = .ok (.iload_n 1, 1) := by decide +kernel
theorem dX2_aboutSeat_72 : decode cX2_aboutSeat 72 = .ok (.ishr, 1) := by decide +kernel
theorem dX2_aboutSeat_73 : decode cX2_aboutSeat 73 = .ok (.iconst 1, 1) := by decide +kernel
theorem dX2_aboutSeat_74 : decode cX2_aboutSeat 74 = .ok (.iand, 1) := by decide +kernel
theorem dX2_aboutSeat_75 : decode cX2_aboutSeat 75 = .ok (.ireturn, 1) := by decide +kernel
theorem dX2_aboutSeat_76 : decode cX2_aboutSeat 76 = .ok (.aload_n 0, 1) := by decide +kernel
theorem dX2_aboutSeat_77 : decode cX2_aboutSeat 77 = .ok (.getfield 23, 3) := by decide +kernel
theorem dX2_aboutSeat_80 : decode cX2_aboutSeat 80 = .ok (.getfield 158, 3) := by decide +kernel
theorem dX2_aboutSeat_83 : decode cX2_aboutSeat 83 = .ok (.iload_n 1, 1) := by decide +kernel
theorem dX2_aboutSeat_84 : decode cX2_aboutSeat 84 = .ok (.invokevirtual 84, 3) := by decide +kernel
theorem dX2_aboutSeat_87 : decode cX2_aboutSeat 87 = .ok (.aload_n 0, 1) := by decide +kernel
theorem dX2_aboutSeat_88 : decode cX2_aboutSeat 88 = .ok (.getfield 14, 3) := by decide +kernel
theorem dX2_aboutSeat_91 : decode cX2_aboutSeat 91 = .ok (.iconst 4, 1) := by decide +kernel
theorem dX2_aboutSeat_92 : decode cX2_aboutSeat 92 = .ok (.invokevirtual 84, 3) := by decide +kernel
theorem dX2_aboutSeat_95 : decode cX2_aboutSeat 95 = .ok (.if_icmp .lt 7, 3) := by decide +kernel
theorem dX2_aboutSeat_98 : decode cX2_aboutSeat 98 = .ok (.iconst 1, 1) := by decide +kernel
theorem dX2_aboutSeat_99 : decode cX2_aboutSeat 99 = .ok (.goto 4, 3) := by decide +kernel
theorem dX2_aboutSeat_102 : decode cX2_aboutSeat 102 = .ok (.iconst 0, 1) := by decide +kernel
theorem dX2_aboutSeat_103 : decode cX2_aboutSeat 103 = .ok (.ireturn, 1) := by decide +kernel
theorem dX2_aboutSeat_104 : decode cX2_aboutSeat 104 = .ok (.aload_n 0, 1) := by decide +kernel
theorem dX2_aboutSeat_105 : decode cX2_aboutSeat 105 = .ok (.getfield 23, 3) := by decide +kernel
theorem dX2_aboutSeat_108 : decode cX2_aboutSeat 108 = .ok (.getfield 158, 3) := by decide +kernel
theorem dX2_aboutSeat_111 : decode cX2_aboutSeat 111 = .ok (.iload_n 1, 1) := by decide +kernel
theorem dX2_aboutSeat_112 : decode cX2_aboutSeat 112 = .ok (.invokevirtual 84, 3) := by decide +kernel
theorem dX2_aboutSeat_115 : decode cX2_aboutSeat 115 = .ok (.ireturn, 1) := by decide +kernel
theorem dX2_aboutSeat_116 : decode cX2_aboutSeat 116 = .ok (.aload_n 0, 1) := by decide +kernel
theorem dX2_aboutSeat_117 : decode cX2_aboutSeat 117 = .ok (.getfield 23, 3) := by decide +kernel
theorem dX2_aboutSeat_120 : decode cX2_aboutSeat 120 = .ok (.getfield 161, 3) := by decide +kernel
theorem dX2_aboutSeat_123 : decode cX2_aboutSeat 123 = .ok (.iload_n 1, 1) := by decide +kernel
theorem dX2_aboutSeat_124 : decode cX2_aboutSeat 124 = .ok (.invokevirtual 84, 3) := by decide +kernel
theorem dX2_aboutSeat_127 : decode cX2_aboutSeat 127 = .ok (.ireturn, 1) := by decide +kernel
theorem dX2_aboutSeat_128 : decode cX2_aboutSeat 128 = .ok (.aload_n 0, 1) := by decide +kernel
theorem dX2_aboutSeat_129 : decode cX2_aboutSeat 129 = .ok (.getfield 23, 3) := by decide +kernel
theorem dX2_aboutSeat_132 : decode cX2_aboutSeat 132 = .ok (.iload_n 1, 1) := by decide +kernel
theorem dX2_aboutSeat_133 : decode cX2_aboutSeat 133 = .ok (.invokevirtual 164, 3) := by decide +kernel
theorem dX2_aboutSeat_136 : decode cX2_aboutSeat 136 = .ok (.ifCond .eq 7, 3) := by decide +kernel
theorem dX2_aboutSeat_139 : decode cX2_aboutSeat 139 = .ok (.iconst 1, 1) := by decide +kernel
theorem dX2_aboutSeat_140 : decode cX2_aboutSeat 140 = .ok (.goto 4, 3) := by decide +kernel
theorem dX2_aboutSeat_143 : decode cX2_aboutSeat 143 = .ok (.iconst 0, 1) := by decide +kernel
theorem dX2_aboutSeat_144 : decode cX2_aboutSeat 144 = .ok (.ireturn, 1) := by decide +kernel
theorem dX2_aboutSeat_145 : decode cX2_aboutSeat 145 = .ok (.aload_n 0, 1) := by decide +kernel
theorem dX2_aboutSeat_146 : decode cX2_aboutSeat 146 = .ok (.getfield 23, 3) := by decide +kernel
theorem dX2_aboutSeat_149 : decode cX2_aboutSeat 149 = .ok (.getfield 167, 3) := by decide +kernel
theorem dX2_aboutSeat_152 : decode cX2_aboutSeat 152 = .ok (.iload_n 1, 1) := by decide +kernel
theorem dX2_aboutSeat_153 : decode cX2_aboutSeat 153 = .ok (.invokevirtual 84, 3) := by decide +kernel
theorem dX2_aboutSeat_156 : decode cX2_aboutSeat 156 = .ok (.ireturn, 1) := by decide +kernel
theorem dX2_aboutSeat_157 : decode cX2_aboutSeat 157 = .ok (.bipush (-2), 2) := by decide +kernel
theorem dX2_aboutSeat_159 : decode cX2_aboutSeat 159 = .ok (.ireturn, 1) := by decide +kernel
set_option maxRecDepth 20000 in
theorem ggX2_suspectedNow_X5_at : GoodIn wsX2_suspectedNow wsX5_at := goodIn_r _ [7, 8, 27] (by decide +kernel) (by decide +kernel)
set_option maxRecDepth 20000 in
theorem gX2_suspectedNow_X5_at : GoodIn wsX2_suspectedNow (wsV RX2 84 RX5 yX5_at wsX5_at) := goodIn_app (goodIn_of _ (by decide +kernel)) ggX2_suspectedNow_X5_at
set_option maxRecDepth 20000 in
theorem ggX2_suspectedNow_X6_suspected : GoodIn wsX2_suspectedNow wsX6_suspected := goodIn_r _ [13, 14, 15, 4, 5, 6, 7, 8, 28, 29, 30, 31, 32, 33, 34, 35, 27] (by decide +kernel) (by decide +kernel)
set_option maxRecDepth 20000 in
theorem gX2_suspectedNow_X6_suspected : GoodIn wsX2_suspectedNow (wsV RX2 170 RX6 yX6_suspected wsX6_suspected) := goodIn_app (goodIn_of _ (by decide +kernel)) ggX2_suspectedNow_X6_suspected
theorem dX2_suspectedNow_0 : decode cX2_suspectedNow 0 = .ok (.aload_n 0, 1) := by decide +kernel
theorem dX2_suspectedNow_1 : decode cX2_suspectedNow 1 = .ok (.getfield 23, 3) := by decide +kernel
theorem dX2_suspectedNow_4 : decode cX2_suspectedNow 4 = .ok (.aload_n 0, 1) := by decide +kernel
theorem dX2_suspectedNow_5 : decode cX2_suspectedNow 5 = .ok (.getfield 14, 3) := by decide +kernel
theorem dX2_suspectedNow_8 : decode cX2_suspectedNow 8 = .ok (.iconst 4, 1) := by decide +kernel
theorem dX2_suspectedNow_9 : decode cX2_suspectedNow 9 = .ok (.invokevirtual 84, 3) := by decide +kernel
theorem dX2_suspectedNow_12 : decode cX2_suspectedNow 12 = .ok (.invokevirtual 170, 3) := by decide +kernel
theorem dX2_suspectedNow_15 : decode cX2_suspectedNow 15 = .ok (.ireturn, 1) := by decide +kernel
set_option maxRecDepth 20000 in
theorem ggX2_recordOf_X2_recordPlace : GoodIn wsX2_recordOf wsX2_recordPlace := goodIn_r _ [10] (by decide +kernel) (by decide +kernel)
set_option maxRecDepth 20000 in
theorem gX2_recordOf_X2_recordPlace : GoodIn wsX2_recordOf (va_wsS RX2 143 yX2_recordPlace wsX2_recordPlace) := goodIn_app (goodIn_of _ (by decide +kernel)) ggX2_recordOf_X2_recordPlace
set_option maxRecDepth 20000 in
theorem ggX2_recordOf_X5_at : GoodIn wsX2_recordOf wsX5_at := goodIn_r _ [15, 16, 28] (by decide +kernel) (by decide +kernel)
set_option maxRecDepth 20000 in
theorem gX2_recordOf_X5_at : GoodIn wsX2_recordOf (wsV RX2 84 RX5 yX5_at wsX5_at) := goodIn_app (goodIn_of _ (by decide +kernel)) ggX2_recordOf_X5_at
theorem dX2_recordOf_0 : decode cX2_recordOf 0 = .ok (.iload_n 1, 1) := by decide +kernel
theorem dX2_recordOf_1 : decode cX2_recordOf 1 = .ok (.ifCond .lt 16, 3) := by decide +kernel
theorem dX2_recordOf_4 : decode cX2_recordOf 4 = .ok (.iload_n 1, 1) := by decide +kernel
theorem dX2_recordOf_5 : decode cX2_recordOf 5 = .ok (.aload_n 0, 1) := by decide +kernel
theorem dX2_recordOf_6 : decode cX2_recordOf 6 = .ok (.getfield 68, 3) := by decide +kernel
theorem dX2_recordOf_9 : decode cX2_recordOf 9 = .ok (.bipush 6, 2) := by decide +kernel
theorem dX2_recordOf_11 : decode cX2_recordOf 11 = .ok (.invokestatic 117, 3) := by decide +kernel
theorem dX2_recordOf_14 : decode cX2_recordOf 14 = .ok (.if_icmp .lt 5, 3) := by decide +kernel
theorem dX2_recordOf_17 : decode cX2_recordOf 17 = .ok (.iconst (-1), 1) := by decide +kernel
theorem dX2_recordOf_18 : decode cX2_recordOf 18 = .ok (.ireturn, 1) := by decide +kernel
theorem dX2_recordOf_19 : decode cX2_recordOf 19 = .ok (.iload_n 2, 1) := by decide +kernel
theorem dX2_recordOf_20 : decode cX2_recordOf 20 = .ok (.ifCond .lt 8, 3) := by decide +kernel
theorem dX2_recordOf_23 : decode cX2_recordOf 23 = .ok (.iload_n 2, 1) := by decide +kernel
theorem dX2_recordOf_24 : decode cX2_recordOf 24 = .ok (.iconst 4, 1) := by decide +kernel
theorem dX2_recordOf_25 : decode cX2_recordOf 25 = .ok (.if_icmp .lt 6, 3) := by decide +kernel
theorem dX2_recordOf_28 : decode cX2_recordOf 28 = .ok (.bipush (-2), 2) := by decide +kernel
theorem dX2_recordOf_30 : decode cX2_recordOf 30 = .ok (.ireturn, 1) := by decide +kernel
theorem dX2_recordOf_31 : decode cX2_recordOf 31 = .ok (.aload_n 0, 1) := by decide +kernel
theorem dX2_recordOf_32 : decode cX2_recordOf 32 = .ok (.getfield 37, 3) := by decide +kernel
theorem dX2_recordOf_35 : decode cX2_recordOf 35 = .ok (.aload_n 0, 1) := by decide +kernel
theorem dX2_recordOf_36 : decode cX2_recordOf 36 = .ok (.getfield 68, 3) := by decide +kernel
theorem dX2_recordOf_39 : decode cX2_recordOf 39 = .ok (.iconst 1, 1) := by decide +kernel
theorem dX2_recordOf_40 : decode cX2_recordOf 40 = .ok (.isub, 1) := by decide +kernel
theorem dX2_recordOf_41 : decode cX2_recordOf 41 = .ok (.iload_n 1, 1) := by decide +kernel
theorem dX2_recordOf_42 : decode cX2_recordOf 42 = .ok (.isub, 1) := by decide +kernel
theorem dX2_recordOf_43 : decode cX2_recordOf 43 = .ok (.iload_n 2, 1) := by decide +kernel
theorem dX2_recordOf_44 : decode cX2_recordOf 44 = .ok (.invokestatic 143, 3) := by decide +kernel
theorem dX2_recordOf_47 : decode cX2_recordOf 47 = .ok (.invokevirtual 84, 3) := by decide +kernel
theorem dX2_recordOf_50 : decode cX2_recordOf 50 = .ok (.ireturn, 1) := by decide +kernel
set_option maxRecDepth 20000 in
theorem ggX2_numberOf_X5_at : GoodIn wsX2_numberOf wsX5_at := goodIn_r _ [14, 15, 57] (by decide +kernel) (by decide +kernel)
set_option maxRecDepth 20000 in
theorem gX2_numberOf_X5_at : GoodIn wsX2_numberOf (wsV RX2 84 RX5 yX5_at wsX5_at) := goodIn_app (goodIn_of _ (by decide +kernel)) ggX2_numberOf_X5_at
set_option maxRecDepth 20000 in
theorem ggX2_numberOf_X5_sum : GoodIn wsX2_numberOf wsX5_sum := goodIn_r _ [19, 15, 57] (by decide +kernel) (by decide +kernel)
set_option maxRecDepth 20000 in
theorem gX2_numberOf_X5_sum : GoodIn wsX2_numberOf (wsV RX2 179 RX5 yX5_sum wsX5_sum) := goodIn_app (goodIn_of _ (by decide +kernel)) ggX2_numberOf_X5_sum
set_option maxRecDepth 20000 in
theorem ggX2_numberOf_X2_suspectedNow : GoodIn wsX2_numberOf wsX2_suspectedNow := goodIn_r _ [24, 8, 9, 10, 11, 12, 13, 14, 15, 25, 26, 27, 28, 29, 30, 31, 32, 33, 34, 35, 36, 37, 38, 39, 40, 41, 42, 57, 49, 50, 51, 52, 53, 54, 55, 56] (by decide +kernel) (by decide +kernel)
set_option maxRecDepth 20000 in
theorem gX2_numberOf_X2_suspectedNow : GoodIn wsX2_numberOf (wsV RX2 186 RX2 yX2_suspectedNow wsX2_suspectedNow) := goodIn_app (goodIn_of _ (by decide +kernel)) ggX2_numberOf_X2_suspectedNow
theorem dX2_numberOf_0 : decode cX2_numberOf 0 = .ok (.iload_n 1, 1) := by decide +kernel
theorem dX2_numberOf_1 : decode cX2_numberOf 1 = .ok (.tableswitch 185 0 12 #[67, 72, 77, 82, 91, 99, 110, 121, 130, 154, 159, 167, 172], 67) := by decide +kernel
theorem dX2_numberOf_68 : decode cX2_numberOf 68 = .ok (.aload_n 0, 1) := by decide +kernel
theorem dX2_numberOf_69 : decode cX2_numberOf 69 = .ok (.getfield 62, 3) := by decide +kernel
theorem dX2_numberOf_72 : decode cX2_numberOf 72 = .ok (.ireturn, 1) := by decide +kernel
theorem dX2_numberOf_73 : decode cX2_numberOf 73 = .ok (.aload_n 0, 1) := by decide +kernel
theorem dX2_numberOf_74 : decode cX2_numberOf 74 = .ok (.getfield 65, 3) := by decide +kernel
theorem dX2_numberOf_77 : decode cX2_numberOf 77 = .ok (.ireturn, 1) := by decide +kernel
theorem dX2_numberOf_78 : decode cX2_numberOf 78 = .ok (.aload_n 0, 1) := by decide +kernel
theorem dX2_numberOf_79 : decode cX2_numberOf 79 = .ok (.getfield 68, 3) := by decide +kernel
theorem dX2_numberOf_82 : decode cX2_numberOf 82 = .ok (.ireturn, 1) := by decide +kernel
theorem dX2_numberOf_83 : decode cX2_numberOf 83 = .ok (.aload_n 0, 1) := by decide +kernel
theorem dX2_numberOf_84 : decode cX2_numberOf 84 = .ok (.getfield 34, 3) := by decide +kernel
theorem dX2_numberOf_87 : decode cX2_numberOf 87 = .ok (.iconst 0, 1) := by decide +kernel
theorem dX2_numberOf_88 : decode cX2_numberOf 88 = .ok (.invokevirtual 84, 3) := by decide +kernel
theorem dX2_numberOf_91 : decode cX2_numberOf 91 = .ok (.ireturn, 1) := by decide +kernel
theorem dX2_numberOf_92 : decode cX2_numberOf 92 = .ok (.aload_n 0, 1) := by decide +kernel
theorem dX2_numberOf_93 : decode cX2_numberOf 93 = .ok (.getfield 30, 3) := by decide +kernel
theorem dX2_numberOf_96 : decode cX2_numberOf 96 = .ok (.getfield 173, 3) := by decide +kernel
theorem dX2_numberOf_99 : decode cX2_numberOf 99 = .ok (.ireturn, 1) := by decide +kernel
theorem dX2_numberOf_100 : decode cX2_numberOf 100 = .ok (.aload_n 0, 1) := by decide +kernel
theorem dX2_numberOf_101 : decode cX2_numberOf 101 = .ok (.getfield 30, 3) := by decide +kernel
theorem dX2_numberOf_104 : decode cX2_numberOf 104 = .ok (.getfield 176, 3) := by decide +kernel
theorem dX2_numberOf_107 : decode cX2_numberOf 107 = .ok (.invokevirtual 179, 3) := by decide +kernel
theorem dX2_numberOf_110 : decode cX2_numberOf 110 = .ok (.ireturn, 1) := by decide +kernel
theorem dX2_numberOf_111 : decode cX2_numberOf 111 = .ok (.aload_n 0, 1) := by decide +kernel
theorem dX2_numberOf_112 : decode cX2_numberOf 112 = .ok (.getfield 30, 3) := by decide +kernel
theorem dX2_numberOf_115 : decode cX2_numberOf 115 = .ok (.getfield 183, 3) := by decide +kernel
theorem dX2_numberOf_118 : decode cX2_numberOf 118 = .ok (.invokevirtual 179, 3) := by decide +kernel
theorem dX2_numberOf_121 : decode cX2_numberOf 121 = .ok (.ireturn, 1) := by decide +kernel
theorem dX2_numberOf_122 : decode cX2_numberOf 122 = .ok (.aload_n 0, 1) := by decide +kernel
theorem dX2_numberOf_123 : decode cX2_numberOf 123 = .ok (.getfield 34, 3) := by decide +kernel
theorem dX2_numberOf_126 : decode cX2_numberOf 126 = .ok (.iconst 3, 1) := by decide +kernel
theorem dX2_numberOf_127 : decode cX2_numberOf 127 = .ok (.invokevirtual 84, 3) := by decide +kernel
theorem dX2_numberOf_130 : decode cX2_numberOf 130 = .ok (.ireturn, 1) := by decide +kernel
theorem dX2_numberOf_131 : decode cX2_numberOf 131 = .ok (.aload_n 0, 1) := by decide +kernel
theorem dX2_numberOf_132 : decode cX2_numberOf 132 = .ok (.getfield 40, 3) := by decide +kernel
theorem dX2_numberOf_135 : decode cX2_numberOf 135 = .ok (.bipush (-6), 2) := by decide +kernel
theorem dX2_numberOf_137 : decode cX2_numberOf 137 = .ok (.if_icmp .ne 8, 3) := by decide +kernel
theorem dX2_numberOf_140 : decode cX2_numberOf 140 = .ok (.bipush (-6), 2) := by decide +kernel
theorem dX2_numberOf_142 : decode cX2_numberOf 142 = .ok (.goto 12, 3) := by decide +kernel
theorem dX2_numberOf_145 : decode cX2_numberOf 145 = .ok (.aload_n 0, 1) := by decide +kernel
theorem dX2_numberOf_146 : decode cX2_numberOf 146 = .ok (.getfield 65, 3) := by decide +kernel
theorem dX2_numberOf_149 : decode cX2_numberOf 149 = .ok (.aload_n 0, 1) := by decide +kernel
theorem dX2_numberOf_150 : decode cX2_numberOf 150 = .ok (.getfield 71, 3) := by decide +kernel
theorem dX2_numberOf_153 : decode cX2_numberOf 153 = .ok (.isub, 1) := by decide +kernel
theorem dX2_numberOf_154 : decode cX2_numberOf 154 = .ok (.ireturn, 1) := by decide +kernel
theorem dX2_numberOf_155 : decode cX2_numberOf 155 = .ok (.aload_n 0, 1) := by decide +kernel
theorem dX2_numberOf_156 : decode cX2_numberOf 156 = .ok (.getfield 40, 3) := by decide +kernel
theorem dX2_numberOf_159 : decode cX2_numberOf 159 = .ok (.ireturn, 1) := by decide +kernel
theorem dX2_numberOf_160 : decode cX2_numberOf 160 = .ok (.aload_n 0, 1) := by decide +kernel
theorem dX2_numberOf_161 : decode cX2_numberOf 161 = .ok (.getfield 23, 3) := by decide +kernel
theorem dX2_numberOf_164 : decode cX2_numberOf 164 = .ok (.getfield 95, 3) := by decide +kernel
theorem dX2_numberOf_167 : decode cX2_numberOf 167 = .ok (.ireturn, 1) := by decide +kernel
theorem dX2_numberOf_168 : decode cX2_numberOf 168 = .ok (.aload_n 0, 1) := by decide +kernel
theorem dX2_numberOf_169 : decode cX2_numberOf 169 = .ok (.invokevirtual 186, 3) := by decide +kernel
theorem dX2_numberOf_172 : decode cX2_numberOf 172 = .ok (.ireturn, 1) := by decide +kernel
theorem dX2_numberOf_173 : decode cX2_numberOf 173 = .ok (.aload_n 0, 1) := by decide +kernel
theorem dX2_numberOf_174 : decode cX2_numberOf 174 = .ok (.getfield 23, 3) := by decide +kernel
theorem dX2_numberOf_177 : decode cX2_numberOf 177 = .ok (.getfield 95, 3) := by decide +kernel
theorem dX2_numberOf_180 : decode cX2_numberOf 180 = .ok (.aload_n 0, 1) := by decide +kernel
theorem dX2_numberOf_181 : decode cX2_numberOf 181 = .ok (.invokevirtual 186, 3) := by decide +kernel
theorem dX2_numberOf_184 : decode cX2_numberOf 184 = .ok (.iand, 1) := by decide +kernel
theorem dX2_numberOf_185 : decode cX2_numberOf 185 = .ok (.ireturn, 1) := by decide +kernel
theorem dX2_numberOf_186 : decode cX2_numberOf 186 = .ok (.iload_n 1, 1) := by decide +kernel
theorem dX2_numberOf_187 : decode cX2_numberOf 187 = .ok (.bipush 13, 2) := by decide +kernel
theorem dX2_numberOf_189 : decode cX2_numberOf 189 = .ok (.if_icmp .lt 23, 3) := by decide +kernel
theorem dX2_numberOf_192 : decode cX2_numberOf 192 = .ok (.iload_n 1, 1) := by decide +kernel
theorem dX2_numberOf_193 : decode cX2_numberOf 193 = .ok (.bipush 19, 2) := by decide +kernel
theorem dX2_numberOf_195 : decode cX2_numberOf 195 = .ok (.if_icmp .ge 17, 3) := by decide +kernel
theorem dX2_numberOf_198 : decode cX2_numberOf 198 = .ok (.aload_n 0, 1) := by decide +kernel
theorem dX2_numberOf_199 : decode cX2_numberOf 199 = .ok (.getfield 14, 3) := by decide +kernel
theorem dX2_numberOf_202 : decode cX2_numberOf 202 = .ok (.iload_n 1, 1) := by decide +kernel
theorem dX2_numberOf_203 : decode cX2_numberOf 203 = .ok (.bipush 13, 2) := by decide +kernel
theorem dX2_numberOf_205 : decode cX2_numberOf 205 = .ok (.isub, 1) := by decide +kernel
theorem dX2_numberOf_206 : decode cX2_numberOf 206 = .ok (.invokevirtual 84, 3) := by decide +kernel
theorem dX2_numberOf_209 : decode cX2_numberOf 209 = .ok (.goto 5, 3) := by decide +kernel
theorem dX2_numberOf_212 : decode cX2_numberOf 212 = .ok (.bipush (-2), 2) := by decide +kernel
theorem dX2_numberOf_214 : decode cX2_numberOf 214 = .ok (.ireturn, 1) := by decide +kernel
set_option maxRecDepth 20000 in
theorem ggX2_secondsUntil_X5_at : GoodIn wsX2_secondsUntil wsX5_at := goodIn_r _ [7, 8, 27] (by decide +kernel) (by decide +kernel)
set_option maxRecDepth 20000 in
theorem gX2_secondsUntil_X5_at : GoodIn wsX2_secondsUntil (wsV RX2 84 RX5 yX5_at wsX5_at) := goodIn_app (goodIn_of _ (by decide +kernel)) ggX2_secondsUntil_X5_at
set_option maxRecDepth 20000 in
theorem ggX2_secondsUntil_X7_afterSecond : GoodIn wsX2_secondsUntil wsX7_afterSecond := goodIn_r _ [11, 12, 13, 14, 15] (by decide +kernel) (by decide +kernel)
set_option maxRecDepth 20000 in
theorem gX2_secondsUntil_X7_afterSecond_n131 : GoodIn wsX2_secondsUntil (wsX7_afterSecond) := ggX2_secondsUntil_X7_afterSecond
theorem dX2_secondsUntil_0 : decode cX2_secondsUntil 0 = .ok (.iload_n 1, 1) := by decide +kernel
theorem dX2_secondsUntil_1 : decode cX2_secondsUntil 1 = .ok (.ifCond .lt 10, 3) := by decide +kernel
theorem dX2_secondsUntil_4 : decode cX2_secondsUntil 4 = .ok (.iload_n 1, 1) := by decide +kernel
theorem dX2_secondsUntil_5 : decode cX2_secondsUntil 5 = .ok (.sipush 9999, 3) := by decide +kernel
theorem dX2_secondsUntil_8 : decode cX2_secondsUntil 8 = .ok (.if_icmp .le 6, 3) := by decide +kernel
theorem dX2_secondsUntil_11 : decode cX2_secondsUntil 11 = .ok (.bipush (-2), 2) := by decide +kernel
theorem dX2_secondsUntil_13 : decode cX2_secondsUntil 13 = .ok (.ireturn, 1) := by decide +kernel
theorem dX2_secondsUntil_14 : decode cX2_secondsUntil 14 = .ok (.aload_n 0, 1) := by decide +kernel
theorem dX2_secondsUntil_15 : decode cX2_secondsUntil 15 = .ok (.getfield 62, 3) := by decide +kernel
theorem dX2_secondsUntil_18 : decode cX2_secondsUntil 18 = .ok (.istore_n 2, 1) := by decide +kernel
theorem dX2_secondsUntil_19 : decode cX2_secondsUntil 19 = .ok (.iconst 0, 1) := by decide +kernel
theorem dX2_secondsUntil_20 : decode cX2_secondsUntil 20 = .ok (.istore_n 3, 1) := by decide +kernel
theorem dX2_secondsUntil_21 : decode cX2_secondsUntil 21 = .ok (.iload_n 2, 1) := by decide +kernel
theorem dX2_secondsUntil_22 : decode cX2_secondsUntil 22 = .ok (.iload_n 1, 1) := by decide +kernel
theorem dX2_secondsUntil_23 : decode cX2_secondsUntil 23 = .ok (.if_icmp .le 29, 3) := by decide +kernel
theorem dX2_secondsUntil_26 : decode cX2_secondsUntil 26 = .ok (.iload_n 3, 1) := by decide +kernel
theorem dX2_secondsUntil_27 : decode cX2_secondsUntil 27 = .ok (.sipush 9999, 3) := by decide +kernel
theorem dX2_secondsUntil_30 : decode cX2_secondsUntil 30 = .ok (.if_icmp .ge 22, 3) := by decide +kernel
theorem dX2_secondsUntil_33 : decode cX2_secondsUntil 33 = .ok (.iload_n 2, 1) := by decide +kernel
theorem dX2_secondsUntil_34 : decode cX2_secondsUntil 34 = .ok (.aload_n 0, 1) := by decide +kernel
theorem dX2_secondsUntil_35 : decode cX2_secondsUntil 35 = .ok (.getfield 14, 3) := by decide +kernel
theorem dX2_secondsUntil_38 : decode cX2_secondsUntil 38 = .ok (.iconst 0, 1) := by decide +kernel
theorem dX2_secondsUntil_39 : decode cX2_secondsUntil 39 = .ok (.invokevirtual 84, 3) := by decide +kernel
theorem dX2_secondsUntil_42 : decode cX2_secondsUntil 42 = .ok (.invokestatic 131, 3) := by decide +kernel
theorem dX2_secondsUntil_45 : decode cX2_secondsUntil 45 = .ok (.istore_n 2, 1) := by decide +kernel
theorem dX2_secondsUntil_46 : decode cX2_secondsUntil 46 = .ok (.iinc 3 1, 3) := by decide +kernel
theorem dX2_secondsUntil_49 : decode cX2_secondsUntil 49 = .ok (.goto (-28), 3) := by decide +kernel
theorem dX2_secondsUntil_52 : decode cX2_secondsUntil 52 = .ok (.iload_n 3, 1) := by decide +kernel
theorem dX2_secondsUntil_53 : decode cX2_secondsUntil 53 = .ok (.ireturn, 1) := by decide +kernel
set_option maxRecDepth 20000 in
theorem ggX2_clapsUntilEncore_X7_isSeat : GoodIn wsX2_clapsUntilEncore wsX7_isSeat := goodIn_r _ [8] (by decide +kernel) (by decide +kernel)
set_option maxRecDepth 20000 in
theorem gX2_clapsUntilEncore_X7_isSeat_n88 : GoodIn wsX2_clapsUntilEncore (wsX7_isSeat) := ggX2_clapsUntilEncore_X7_isSeat
set_option maxRecDepth 20000 in
theorem ggX2_clapsUntilEncore_X5_at : GoodIn wsX2_clapsUntilEncore wsX5_at := goodIn_r _ [13, 14, 34] (by decide +kernel) (by decide +kernel)
set_option maxRecDepth 20000 in
theorem gX2_clapsUntilEncore_X5_at : GoodIn wsX2_clapsUntilEncore (wsV RX2 84 RX5 yX5_at wsX5_at) := goodIn_app (goodIn_of _ (by decide +kernel)) ggX2_clapsUntilEncore_X5_at
theorem dX2_clapsUntilEncore_0 : decode cX2_clapsUntilEncore 0 = .ok (.iload_n 1, 1) := by decide +kernel
theorem dX2_clapsUntilEncore_1 : decode cX2_clapsUntilEncore 1 = .ok (.invokestatic 88, 3) := by decide +kernel
theorem dX2_clapsUntilEncore_4 : decode cX2_clapsUntilEncore 4 = .ok (.ifCond .ne 5, 3) := by decide +kernel
theorem dX2_clapsUntilEncore_7 : decode cX2_clapsUntilEncore 7 = .ok (.iconst (-1), 1) := by decide +kernel
theorem dX2_clapsUntilEncore_8 : decode cX2_clapsUntilEncore 8 = .ok (.ireturn, 1) := by decide +kernel
theorem dX2_clapsUntilEncore_9 : decode cX2_clapsUntilEncore 9 = .ok (.aload_n 0, 1) := by decide +kernel
theorem dX2_clapsUntilEncore_10 : decode cX2_clapsUntilEncore 10 = .ok (.getfield 40, 3) := by decide +kernel
theorem dX2_clapsUntilEncore_13 : decode cX2_clapsUntilEncore 13 = .ok (.bipush (-6), 2) := by decide +kernel
theorem dX2_clapsUntilEncore_15 : decode cX2_clapsUntilEncore 15 = .ok (.if_icmp .eq 10, 3) := by decide +kernel
theorem dX2_clapsUntilEncore_18 : decode cX2_clapsUntilEncore 18 = .ok (.aload_n 0, 1) := by decide +kernel
theorem dX2_clapsUntilEncore_19 : decode cX2_clapsUntilEncore 19 = .ok (.getfield 74, 3) := by decide +kernel
theorem dX2_clapsUntilEncore_22 : decode cX2_clapsUntilEncore 22 = .ok (.ifCond .eq 6, 3) := by decide +kernel
theorem dX2_clapsUntilEncore_25 : decode cX2_clapsUntilEncore 25 = .ok (.bipush (-5), 2) := by decide +kernel
theorem dX2_clapsUntilEncore_27 : decode cX2_clapsUntilEncore 27 = .ok (.ireturn, 1) := by decide +kernel
theorem dX2_clapsUntilEncore_28 : decode cX2_clapsUntilEncore 28 = .ok (.bipush 10, 2) := by decide +kernel
theorem dX2_clapsUntilEncore_30 : decode cX2_clapsUntilEncore 30 = .ok (.aload_n 0, 1) := by decide +kernel
theorem dX2_clapsUntilEncore_31 : decode cX2_clapsUntilEncore 31 = .ok (.getfield 23, 3) := by decide +kernel
theorem dX2_clapsUntilEncore_34 : decode cX2_clapsUntilEncore 34 = .ok (.getfield 92, 3) := by decide +kernel
theorem dX2_clapsUntilEncore_37 : decode cX2_clapsUntilEncore 37 = .ok (.iload_n 1, 1) := by decide +kernel
theorem dX2_clapsUntilEncore_38 : decode cX2_clapsUntilEncore 38 = .ok (.invokevirtual 84, 3) := by decide +kernel
theorem dX2_clapsUntilEncore_41 : decode cX2_clapsUntilEncore 41 = .ok (.imul, 1) := by decide +kernel
theorem dX2_clapsUntilEncore_42 : decode cX2_clapsUntilEncore 42 = .ok (.istore_n 2, 1) := by decide +kernel
theorem dX2_clapsUntilEncore_43 : decode cX2_clapsUntilEncore 43 = .ok (.aload_n 0, 1) := by decide +kernel
theorem dX2_clapsUntilEncore_44 : decode cX2_clapsUntilEncore 44 = .ok (.getfield 14, 3) := by decide +kernel
theorem dX2_clapsUntilEncore_47 : decode cX2_clapsUntilEncore 47 = .ok (.iconst 1, 1) := by decide +kernel
theorem dX2_clapsUntilEncore_48 : decode cX2_clapsUntilEncore 48 = .ok (.invokevirtual 84, 3) := by decide +kernel
theorem dX2_clapsUntilEncore_51 : decode cX2_clapsUntilEncore 51 = .ok (.aload_n 0, 1) := by decide +kernel
theorem dX2_clapsUntilEncore_52 : decode cX2_clapsUntilEncore 52 = .ok (.getfield 62, 3) := by decide +kernel
theorem dX2_clapsUntilEncore_55 : decode cX2_clapsUntilEncore 55 = .ok (.isub, 1) := by decide +kernel
theorem dX2_clapsUntilEncore_56 : decode cX2_clapsUntilEncore 56 = .ok (.istore_n 3, 1) := by decide +kernel
theorem dX2_clapsUntilEncore_57 : decode cX2_clapsUntilEncore 57 = .ok (.iload_n 2, 1) := by decide +kernel
theorem dX2_clapsUntilEncore_58 : decode cX2_clapsUntilEncore 58 = .ok (.ifCond .le 7, 3) := by decide +kernel
theorem dX2_clapsUntilEncore_61 : decode cX2_clapsUntilEncore 61 = .ok (.iload_n 3, 1) := by decide +kernel
theorem dX2_clapsUntilEncore_62 : decode cX2_clapsUntilEncore 62 = .ok (.ifCond .gt 7, 3) := by decide +kernel
theorem dX2_clapsUntilEncore_65 : decode cX2_clapsUntilEncore 65 = .ok (.iconst 1, 1) := by decide +kernel
theorem dX2_clapsUntilEncore_66 : decode cX2_clapsUntilEncore 66 = .ok (.goto 10, 3) := by decide +kernel
theorem dX2_clapsUntilEncore_69 : decode cX2_clapsUntilEncore 69 = .ok (.iload_n 3, 1) := by decide +kernel
theorem dX2_clapsUntilEncore_70 : decode cX2_clapsUntilEncore 70 = .ok (.iload_n 2, 1) := by decide +kernel
theorem dX2_clapsUntilEncore_71 : decode cX2_clapsUntilEncore 71 = .ok (.iadd, 1) := by decide +kernel
theorem dX2_clapsUntilEncore_72 : decode cX2_clapsUntilEncore 72 = .ok (.iconst 1, 1) := by decide +kernel
theorem dX2_clapsUntilEncore_73 : decode cX2_clapsUntilEncore 73 = .ok (.isub, 1) := by decide +kernel
theorem dX2_clapsUntilEncore_74 : decode cX2_clapsUntilEncore 74 = .ok (.iload_n 2, 1) := by decide +kernel
theorem dX2_clapsUntilEncore_75 : decode cX2_clapsUntilEncore 75 = .ok (.idiv, 1) := by decide +kernel
theorem dX2_clapsUntilEncore_76 : decode cX2_clapsUntilEncore 76 = .ok (.ireturn, 1) := by decide +kernel
set_option maxRecDepth 20000 in
theorem ggX2_secondsUntilLapse_X7_isPerformer : GoodIn wsX2_secondsUntilLapse wsX7_isPerformer := goodIn_r _ [10] (by decide +kernel) (by decide +kernel)
set_option maxRecDepth 20000 in
theorem gX2_secondsUntilLapse_X7_isPerformer_n98 : GoodIn wsX2_secondsUntilLapse (wsX7_isPerformer) := ggX2_secondsUntilLapse_X7_isPerformer
set_option maxRecDepth 20000 in
theorem ggX2_secondsUntilLapse_X0_earliestOf : GoodIn wsX2_secondsUntilLapse wsX0_earliestOf := goodIn_r _ [15, 16, 17, 18, 19, 20, 21, 22, 23, 36, 37, 38, 39, 40, 41, 42] (by decide +kernel) (by decide +kernel)
set_option maxRecDepth 20000 in
theorem gX2_secondsUntilLapse_X0_earliestOf : GoodIn wsX2_secondsUntilLapse (wsV RX2 189 RX0 yX0_earliestOf wsX0_earliestOf) := goodIn_app (goodIn_of _ (by decide +kernel)) ggX2_secondsUntilLapse_X0_earliestOf
set_option maxRecDepth 20000 in
theorem ggX2_secondsUntilLapse_X5_at : GoodIn wsX2_secondsUntilLapse wsX5_at := goodIn_r _ [22, 23, 42] (by decide +kernel) (by decide +kernel)
set_option maxRecDepth 20000 in
theorem gX2_secondsUntilLapse_X5_at : GoodIn wsX2_secondsUntilLapse (wsV RX2 84 RX5 yX5_at wsX5_at) := goodIn_app (goodIn_of _ (by decide +kernel)) ggX2_secondsUntilLapse_X5_at
theorem dX2_secondsUntilLapse_0 : decode cX2_secondsUntilLapse 0 = .ok (.iload_n 1, 1) := by decide +kernel
theorem dX2_secondsUntilLapse_1 : decode cX2_secondsUntilLapse 1 = .ok (.invokestatic 98, 3) := by decide +kernel
theorem dX2_secondsUntilLapse_4 : decode cX2_secondsUntilLapse 4 = .ok (.ifCond .ne 5, 3) := by decide +kernel
theorem dX2_secondsUntilLapse_7 : decode cX2_secondsUntilLapse 7 = .ok (.iconst (-1), 1) := by decide +kernel
theorem dX2_secondsUntilLapse_8 : decode cX2_secondsUntilLapse 8 = .ok (.ireturn, 1) := by decide +kernel
theorem dX2_secondsUntilLapse_9 : decode cX2_secondsUntilLapse 9 = .ok (.aload_n 0, 1) := by decide +kernel
theorem dX2_secondsUntilLapse_10 : decode cX2_secondsUntilLapse 10 = .ok (.getfield 30, 3) := by decide +kernel
theorem dX2_secondsUntilLapse_13 : decode cX2_secondsUntilLapse 13 = .ok (.iload_n 1, 1) := by decide +kernel
theorem dX2_secondsUntilLapse_14 : decode cX2_secondsUntilLapse 14 = .ok (.invokevirtual 189, 3) := by decide +kernel
theorem dX2_secondsUntilLapse_17 : decode cX2_secondsUntilLapse 17 = .ok (.istore_n 2, 1) := by decide +kernel
theorem dX2_secondsUntilLapse_18 : decode cX2_secondsUntilLapse 18 = .ok (.iload_n 2, 1) := by decide +kernel
theorem dX2_secondsUntilLapse_19 : decode cX2_secondsUntilLapse 19 = .ok (.bipush (-6), 2) := by decide +kernel
theorem dX2_secondsUntilLapse_21 : decode cX2_secondsUntilLapse 21 = .ok (.if_icmp .ne 6, 3) := by decide +kernel
theorem dX2_secondsUntilLapse_24 : decode cX2_secondsUntilLapse 24 = .ok (.bipush (-6), 2) := by decide +kernel
theorem dX2_secondsUntilLapse_26 : decode cX2_secondsUntilLapse 26 = .ok (.ireturn, 1) := by decide +kernel
theorem dX2_secondsUntilLapse_27 : decode cX2_secondsUntilLapse 27 = .ok (.aload_n 0, 1) := by decide +kernel
theorem dX2_secondsUntilLapse_28 : decode cX2_secondsUntilLapse 28 = .ok (.getfield 65, 3) := by decide +kernel
theorem dX2_secondsUntilLapse_31 : decode cX2_secondsUntilLapse 31 = .ok (.aload_n 0, 1) := by decide +kernel
theorem dX2_secondsUntilLapse_32 : decode cX2_secondsUntilLapse 32 = .ok (.getfield 30, 3) := by decide +kernel
theorem dX2_secondsUntilLapse_35 : decode cX2_secondsUntilLapse 35 = .ok (.getfield 192, 3) := by decide +kernel
theorem dX2_secondsUntilLapse_38 : decode cX2_secondsUntilLapse 38 = .ok (.iload_n 2, 1) := by decide +kernel
theorem dX2_secondsUntilLapse_39 : decode cX2_secondsUntilLapse 39 = .ok (.invokevirtual 84, 3) := by decide +kernel
theorem dX2_secondsUntilLapse_42 : decode cX2_secondsUntilLapse 42 = .ok (.isub, 1) := by decide +kernel
theorem dX2_secondsUntilLapse_43 : decode cX2_secondsUntilLapse 43 = .ok (.istore_n 3, 1) := by decide +kernel
theorem dX2_secondsUntilLapse_44 : decode cX2_secondsUntilLapse 44 = .ok (.aload_n 0, 1) := by decide +kernel
theorem dX2_secondsUntilLapse_45 : decode cX2_secondsUntilLapse 45 = .ok (.getfield 14, 3) := by decide +kernel
theorem dX2_secondsUntilLapse_48 : decode cX2_secondsUntilLapse 48 = .ok (.iconst 2, 1) := by decide +kernel
theorem dX2_secondsUntilLapse_49 : decode cX2_secondsUntilLapse 49 = .ok (.invokevirtual 84, 3) := by decide +kernel
theorem dX2_secondsUntilLapse_52 : decode cX2_secondsUntilLapse 52 = .ok (.iload_n 3, 1) := by decide +kernel
theorem dX2_secondsUntilLapse_53 : decode cX2_secondsUntilLapse 53 = .ok (.isub, 1) := by decide +kernel
theorem dX2_secondsUntilLapse_54 : decode cX2_secondsUntilLapse 54 = .ok (.iconst 1, 1) := by decide +kernel
theorem dX2_secondsUntilLapse_55 : decode cX2_secondsUntilLapse 55 = .ok (.invokestatic 195, 3) := by decide +kernel
theorem dX2_secondsUntilLapse_58 : decode cX2_secondsUntilLapse 58 = .ok (.ireturn, 1) := by decide +kernel
set_option maxRecDepth 20000 in
theorem ggX2_curtainsLeft_X5_at : GoodIn wsX2_curtainsLeft wsX5_at := goodIn_r _ [7, 8, 20] (by decide +kernel) (by decide +kernel)
set_option maxRecDepth 20000 in
theorem gX2_curtainsLeft_X5_at : GoodIn wsX2_curtainsLeft (wsV RX2 84 RX5 yX5_at wsX5_at) := goodIn_app (goodIn_of _ (by decide +kernel)) ggX2_curtainsLeft_X5_at
theorem dX2_curtainsLeft_0 : decode cX2_curtainsLeft 0 = .ok (.aload_n 0, 1) := by decide +kernel
theorem dX2_curtainsLeft_1 : decode cX2_curtainsLeft 1 = .ok (.getfield 62, 3) := by decide +kernel
theorem dX2_curtainsLeft_4 : decode cX2_curtainsLeft 4 = .ok (.istore_n 1, 1) := by decide +kernel
theorem dX2_curtainsLeft_5 : decode cX2_curtainsLeft 5 = .ok (.iconst 0, 1) := by decide +kernel
theorem dX2_curtainsLeft_6 : decode cX2_curtainsLeft 6 = .ok (.istore_n 2, 1) := by decide +kernel
theorem dX2_curtainsLeft_7 : decode cX2_curtainsLeft 7 = .ok (.iload_n 1, 1) := by decide +kernel
theorem dX2_curtainsLeft_8 : decode cX2_curtainsLeft 8 = .ok (.ifCond .le 25, 3) := by decide +kernel
theorem dX2_curtainsLeft_11 : decode cX2_curtainsLeft 11 = .ok (.iload_n 1, 1) := by decide +kernel
theorem dX2_curtainsLeft_12 : decode cX2_curtainsLeft 12 = .ok (.aload_n 0, 1) := by decide +kernel
theorem dX2_curtainsLeft_13 : decode cX2_curtainsLeft 13 = .ok (.getfield 14, 3) := by decide +kernel
theorem dX2_curtainsLeft_16 : decode cX2_curtainsLeft 16 = .ok (.iconst 5, 1) := by decide +kernel
theorem dX2_curtainsLeft_17 : decode cX2_curtainsLeft 17 = .ok (.invokevirtual 84, 3) := by decide +kernel
theorem dX2_curtainsLeft_20 : decode cX2_curtainsLeft 20 = .ok (.if_icmp .lt 13, 3) := by decide +kernel
theorem dX2_curtainsLeft_23 : decode cX2_curtainsLeft 23 = .ok (.iload_n 1, 1) := by decide +kernel
theorem dX2_curtainsLeft_24 : decode cX2_curtainsLeft 24 = .ok (.iconst 2, 1) := by decide +kernel
theorem dX2_curtainsLeft_25 : decode cX2_curtainsLeft 25 = .ok (.idiv, 1) := by decide +kernel
theorem dX2_curtainsLeft_26 : decode cX2_curtainsLeft 26 = .ok (.istore_n 1, 1) := by decide +kernel
theorem dX2_curtainsLeft_27 : decode cX2_curtainsLeft 27 = .ok (.iinc 2 1, 3) := by decide +kernel
theorem dX2_curtainsLeft_30 : decode cX2_curtainsLeft 30 = .ok (.goto (-23), 3) := by decide +kernel
theorem dX2_curtainsLeft_33 : decode cX2_curtainsLeft 33 = .ok (.iload_n 2, 1) := by decide +kernel
theorem dX2_curtainsLeft_34 : decode cX2_curtainsLeft 34 = .ok (.ireturn, 1) := by decide +kernel
theorem dX3_init_0 : decode cX3_init 0 = .ok (.aload_n 0, 1) := by decide +kernel
theorem dX3_init_1 : decode cX3_init 1 = .ok (.invokespecial 3, 3) := by decide +kernel
theorem dX3_init_4 : decode cX3_init 4 = .ok (.aload_n 0, 1) := by decide +kernel
theorem dX3_init_5 : decode cX3_init 5 = .ok (.aload_n 1, 1) := by decide +kernel
theorem dX3_init_6 : decode cX3_init 6 = .ok (.putfield 9, 3) := by decide +kernel
theorem dX3_init_9 : decode cX3_init 9 = .ok (.return_, 1) := by decide +kernel
set_option maxRecDepth 20000 in
theorem ggX3_faultPlace_X3_readOrder : GoodIn wsX3_faultPlace wsX3_readOrder := goodIn_r _ [7, 2, 1, 8, 9, 10, 11, 12, 13, 14, 15, 16, 17, 18, 19, 6, 20, 21, 22, 23, 24, 25, 26, 27, 28, 29, 30, 31, 32, 33, 38, 39, 40, 41, 42, 43, 44] (by decide +kernel) (by decide +kernel)
set_option maxRecDepth 20000 in
theorem gX3_faultPlace_X3_readOrder : GoodIn wsX3_faultPlace (wsV RX3 19 RX3 yX3_readOrder wsX3_readOrder) := goodIn_app (goodIn_of _ (by decide +kernel)) ggX3_faultPlace_X3_readOrder
set_option maxRecDepth 20000 in
theorem ggX3_faultPlace_X4_length : GoodIn wsX3_faultPlace wsX4_length := goodIn_r _ [37, 15, 43, 44] (by decide +kernel) (by decide +kernel)
set_option maxRecDepth 20000 in
theorem gX3_faultPlace_X4_length : GoodIn wsX3_faultPlace (wsV RX3 23 RX4 yX4_length wsX4_length) := goodIn_app (goodIn_of _ (by decide +kernel)) ggX3_faultPlace_X4_length
set_option maxRecDepth 20000 in
theorem ggX3_faultPlace_X3_readSign : GoodIn wsX3_faultPlace wsX3_readSign := goodIn_r _ [33, 2, 1, 10, 11, 12, 13, 14, 15, 16, 38, 39, 40, 41, 42, 43, 44] (by decide +kernel) (by decide +kernel)
set_option maxRecDepth 20000 in
theorem gX3_faultPlace_X3_readSign : GoodIn wsX3_faultPlace (wsV RX3 29 RX3 yX3_readSign wsX3_readSign) := goodIn_app (goodIn_of _ (by decide +kernel)) ggX3_faultPlace_X3_readSign
theorem dX3_faultPlace_0 : decode cX3_faultPlace 0 = .ok (.aload_n 0, 1) := by decide +kernel
theorem dX3_faultPlace_1 : decode cX3_faultPlace 1 = .ok (.iconst 0, 1) := by decide +kernel
theorem dX3_faultPlace_2 : decode cX3_faultPlace 2 = .ok (.putfield 15, 3) := by decide +kernel
theorem dX3_faultPlace_5 : decode cX3_faultPlace 5 = .ok (.iconst 0, 1) := by decide +kernel
theorem dX3_faultPlace_6 : decode cX3_faultPlace 6 = .ok (.istore_n 1, 1) := by decide +kernel
theorem dX3_faultPlace_7 : decode cX3_faultPlace 7 = .ok (.iload_n 1, 1) := by decide +kernel
theorem dX3_faultPlace_8 : decode cX3_faultPlace 8 = .ok (.bipush 80, 2) := by decide +kernel
theorem dX3_faultPlace_10 : decode cX3_faultPlace 10 = .ok (.if_icmp .gt 52, 3) := by decide +kernel
theorem dX3_faultPlace_13 : decode cX3_faultPlace 13 = .ok (.aload_n 0, 1) := by decide +kernel
theorem dX3_faultPlace_14 : decode cX3_faultPlace 14 = .ok (.invokevirtual 19, 3) := by decide +kernel
theorem dX3_faultPlace_17 : decode cX3_faultPlace 17 = .ok (.ifCond .ne 8, 3) := by decide +kernel
theorem dX3_faultPlace_20 : decode cX3_faultPlace 20 = .ok (.aload_n 0, 1) := by decide +kernel
theorem dX3_faultPlace_21 : decode cX3_faultPlace 21 = .ok (.getfield 15, 3) := by decide +kernel
theorem dX3_faultPlace_24 : decode cX3_faultPlace 24 = .ok (.ireturn, 1) := by decide +kernel
theorem dX3_faultPlace_25 : decode cX3_faultPlace 25 = .ok (.aload_n 0, 1) := by decide +kernel
theorem dX3_faultPlace_26 : decode cX3_faultPlace 26 = .ok (.getfield 15, 3) := by decide +kernel
theorem dX3_faultPlace_29 : decode cX3_faultPlace 29 = .ok (.aload_n 0, 1) := by decide +kernel
theorem dX3_faultPlace_30 : decode cX3_faultPlace 30 = .ok (.getfield 9, 3) := by decide +kernel
theorem dX3_faultPlace_33 : decode cX3_faultPlace 33 = .ok (.invokevirtual 23, 3) := by decide +kernel
theorem dX3_faultPlace_36 : decode cX3_faultPlace 36 = .ok (.if_icmp .lt 6, 3) := by decide +kernel
theorem dX3_faultPlace_39 : decode cX3_faultPlace 39 = .ok (.bipush (-6), 2) := by decide +kernel
theorem dX3_faultPlace_41 : decode cX3_faultPlace 41 = .ok (.ireturn, 1) := by decide +kernel
theorem dX3_faultPlace_42 : decode cX3_faultPlace 42 = .ok (.aload_n 0, 1) := by decide +kernel
theorem dX3_faultPlace_43 : decode cX3_faultPlace 43 = .ok (.bipush 59, 2) := by decide +kernel
theorem dX3_faultPlace_45 : decode cX3_faultPlace 45 = .ok (.invokevirtual 29, 3) := by decide +kernel
theorem dX3_faultPlace_48 : decode cX3_faultPlace 48 = .ok (.ifCond .ne 8, 3) := by decide +kernel
theorem dX3_faultPlace_51 : decode cX3_faultPlace 51 = .ok (.aload_n 0, 1) := by decide +kernel
theorem dX3_faultPlace_52 : decode cX3_faultPlace 52 = .ok (.getfield 15, 3) := by decide +kernel
theorem dX3_faultPlace_55 : decode cX3_faultPlace 55 = .ok (.ireturn, 1) := by decide +kernel
theorem dX3_faultPlace_56 : decode cX3_faultPlace 56 = .ok (.iinc 1 1, 3) := by decide +kernel
theorem dX3_faultPlace_59 : decode cX3_faultPlace 59 = .ok (.goto (-52), 3) := by decide +kernel
theorem dX3_faultPlace_62 : decode cX3_faultPlace 62 = .ok (.bipush (-6), 2) := by decide +kernel
theorem dX3_faultPlace_64 : decode cX3_faultPlace 64 = .ok (.ireturn, 1) := by decide +kernel
set_option maxRecDepth 20000 in
theorem ggX3_carryOutIn_X3_readOrder : GoodIn wsX3_carryOutIn wsX3_readOrder := goodIn_r _ [7, 8, 1, 9, 2, 10, 11, 12, 13, 14, 15, 16, 17, 18, 19, 6, 20, 21, 22, 23, 24, 25, 26, 27, 28, 29, 30, 31, 32, 33, 178, 179, 180, 181, 182, 183, 184] (by decide +kernel) (by decide +kernel)
set_option maxRecDepth 20000 in
theorem gX3_carryOutIn_X3_readOrder : GoodIn wsX3_carryOutIn (wsV RX3 19 RX3 yX3_readOrder wsX3_readOrder) := goodIn_app (goodIn_of _ (by decide +kernel)) ggX3_carryOutIn_X3_readOrder
set_option maxRecDepth 20000 in
theorem ggX3_carryOutIn_X3_carryOrderOutIn : GoodIn wsX3_carryOutIn wsX3_carryOrderOutIn := goodIn_r _ [37, 9, 21, 38, 39, 40, 41, 42, 43, 44, 45, 46, 47, 48, 49, 50, 51, 52, 53, 54, 55, 56, 57, 58, 59, 60, 61, 62, 63, 64, 65, 66, 67, 68, 69, 70, 71, 72, 73, 74, 75, 76, 77, 78, 79, 80, 81, 82, 83, 84, 85, 86, 87, 88, 89, 90, 91, 92, 93, 94, 95, 96, 97, 98, 99, 100, 101, 102, 103, 104, 105, 106, 107, 108, 109, 110, 111, 112, 113, 114, 115, 116, 117, 118, 119, 120, 121, 122, 123, 124, 125, 126, 127, 128, 129, 130, 131, 132, 133, 134, 135, 136, 137, 138, 139, 140, 141, 142, 143, 144, 145, 146, 147, 148, 149, 150, 151, 152, 153, 154, 155, 156, 157, 158, 159, 160, 161, 162, 163, 164, 165, 166, 167, 168, 169, 170, 171, 172, 173, 174, 175, 176, 177, 178, 179, 180, 181, 182, 185, 186, 187, 188, 189, 190, 191, 192, 193, 194, 195, 196, 197, 198, 199, 200, 201, 202, 203, 204, 205, 206, 207, 208, 209, 210] (by decide +kernel) (by decide +kernel)
set_option maxRecDepth 20000 in
theorem gX3_carryOutIn_X3_carryOrderOutIn : GoodIn wsX3_carryOutIn (wsV RX3 36 RX3 yX3_carryOrderOutIn wsX3_carryOrderOutIn) := goodIn_app (goodIn_of _ (by decide +kernel)) ggX3_carryOutIn_X3_carryOrderOutIn
set_option maxRecDepth 20000 in
theorem ggX3_carryOutIn_X3_readSign : GoodIn wsX3_carryOutIn wsX3_readSign := goodIn_r _ [33, 8, 1, 10, 11, 12, 13, 14, 15, 16, 178, 179, 180, 181, 182, 183, 184] (by decide +kernel) (by decide +kernel)
set_option maxRecDepth 20000 in
theorem gX3_carryOutIn_X3_readSign : GoodIn wsX3_carryOutIn (wsV RX3 29 RX3 yX3_readSign wsX3_readSign) := goodIn_app (goodIn_of _ (by decide +kernel)) ggX3_carryOutIn_X3_readSign
theorem dX3_carryOutIn_0 : decode cX3_carryOutIn 0 = .ok (.aload_n 0, 1) := by decide +kernel
theorem dX3_carryOutIn_1 : decode cX3_carryOutIn 1 = .ok (.iconst 0, 1) := by decide +kernel
theorem dX3_carryOutIn_2 : decode cX3_carryOutIn 2 = .ok (.putfield 15, 3) := by decide +kernel
theorem dX3_carryOutIn_5 : decode cX3_carryOutIn 5 = .ok (.iconst 0, 1) := by decide +kernel
theorem dX3_carryOutIn_6 : decode cX3_carryOutIn 6 = .ok (.istore_n 2, 1) := by decide +kernel
theorem dX3_carryOutIn_7 : decode cX3_carryOutIn 7 = .ok (.iconst 0, 1) := by decide +kernel
theorem dX3_carryOutIn_8 : decode cX3_carryOutIn 8 = .ok (.istore_n 3, 1) := by decide +kernel
theorem dX3_carryOutIn_9 : decode cX3_carryOutIn 9 = .ok (.iload_n 3, 1) := by decide +kernel
theorem dX3_carryOutIn_10 : decode cX3_carryOutIn 10 = .ok (.bipush 80, 2) := by decide +kernel
theorem dX3_carryOutIn_12 : decode cX3_carryOutIn 12 = .ok (.if_icmp .gt 54, 3) := by decide +kernel
theorem dX3_carryOutIn_15 : decode cX3_carryOutIn 15 = .ok (.aload_n 0, 1) := by decide +kernel
theorem dX3_carryOutIn_16 : decode cX3_carryOutIn 16 = .ok (.invokevirtual 19, 3) := by decide +kernel
theorem dX3_carryOutIn_19 : decode cX3_carryOutIn 19 = .ok (.ifCond .eq 47, 3) := by decide +kernel
theorem dX3_carryOutIn_22 : decode cX3_carryOutIn 22 = .ok (.iconst 0, 1) := by decide +kernel
theorem dX3_carryOutIn_23 : decode cX3_carryOutIn 23 = .ok (.istore 4, 2) := by decide +kernel
theorem dX3_carryOutIn_25 : decode cX3_carryOutIn 25 = .ok (.iload 4, 2) := by decide +kernel
theorem dX3_carryOutIn_27 : decode cX3_carryOutIn 27 = .ok (.aload_n 0, 1) := by decide +kernel
theorem dX3_carryOutIn_28 : decode cX3_carryOutIn 28 = .ok (.getfield 33, 3) := by decide +kernel
theorem dX3_carryOutIn_31 : decode cX3_carryOutIn 31 = .ok (.if_icmp .ge 22, 3) := by decide +kernel
theorem dX3_carryOutIn_34 : decode cX3_carryOutIn 34 = .ok (.aload_n 0, 1) := by decide +kernel
theorem dX3_carryOutIn_35 : decode cX3_carryOutIn 35 = .ok (.aload_n 1, 1) := by decide +kernel
theorem dX3_carryOutIn_36 : decode cX3_carryOutIn 36 = .ok (.invokevirtual 36, 3) := by decide +kernel
theorem dX3_carryOutIn_39 : decode cX3_carryOutIn 39 = .ok (.ifCond .ge 5, 3) := by decide +kernel
theorem dX3_carryOutIn_42 : decode cX3_carryOutIn 42 = .ok (.iload_n 2, 1) := by decide +kernel
theorem dX3_carryOutIn_43 : decode cX3_carryOutIn 43 = .ok (.ireturn, 1) := by decide +kernel
theorem dX3_carryOutIn_44 : decode cX3_carryOutIn 44 = .ok (.iinc 2 1, 3) := by decide +kernel
theorem dX3_carryOutIn_47 : decode cX3_carryOutIn 47 = .ok (.iinc 4 1, 3) := by decide +kernel
theorem dX3_carryOutIn_50 : decode cX3_carryOutIn 50 = .ok (.goto (-25), 3) := by decide +kernel
theorem dX3_carryOutIn_53 : decode cX3_carryOutIn 53 = .ok (.aload_n 0, 1) := by decide +kernel
theorem dX3_carryOutIn_54 : decode cX3_carryOutIn 54 = .ok (.bipush 59, 2) := by decide +kernel
theorem dX3_carryOutIn_56 : decode cX3_carryOutIn 56 = .ok (.invokevirtual 29, 3) := by decide +kernel
theorem dX3_carryOutIn_59 : decode cX3_carryOutIn 59 = .ok (.pop, 1) := by decide +kernel
theorem dX3_carryOutIn_60 : decode cX3_carryOutIn 60 = .ok (.iinc 3 1, 3) := by decide +kernel
theorem dX3_carryOutIn_63 : decode cX3_carryOutIn 63 = .ok (.goto (-54), 3) := by decide +kernel
theorem dX3_carryOutIn_66 : decode cX3_carryOutIn 66 = .ok (.iload_n 2, 1) := by decide +kernel
theorem dX3_carryOutIn_67 : decode cX3_carryOutIn 67 = .ok (.ireturn, 1) := by decide +kernel
set_option maxRecDepth 20000 in
theorem ggX3_carryOrderOutIn_X2_endPiece : GoodIn wsX3_carryOrderOutIn wsX2_endPiece := goodIn_r _ [7, 8, 9, 10, 11, 12, 13, 14, 6, 15, 16, 17, 18, 19, 20, 21, 22, 23, 24, 25, 26, 27, 28, 29, 30, 31, 32, 33, 148, 149, 150, 151, 152, 153, 154, 155, 156, 157, 158, 159, 160, 161, 162, 163, 164, 165, 166, 167, 168, 169, 170, 171, 172, 173] (by decide +kernel) (by decide +kernel)
set_option maxRecDepth 20000 in
theorem gX3_carryOrderOutIn_X2_endPiece : GoodIn wsX3_carryOrderOutIn (wsV RX3 46 RX2 yX2_endPiece wsX2_endPiece) := goodIn_app (goodIn_of _ (by decide +kernel)) ggX3_carryOrderOutIn_X2_endPiece
set_option maxRecDepth 20000 in
theorem ggX3_carryOrderOutIn_X2_takeClap : GoodIn wsX3_carryOrderOutIn wsX2_takeClap := goodIn_r _ [37, 18, 17, 19, 20, 38, 39, 8, 40, 41, 42, 43, 21, 44, 10, 45, 46, 47, 48, 25, 49, 27, 50, 51, 52, 31, 53, 54, 55, 56, 57, 33, 58, 59, 60, 61, 62, 63, 23, 24, 26, 64, 65, 66, 67, 68, 22, 69, 70, 71, 6, 72, 16, 73, 74, 75, 76, 77, 78, 79, 80, 81, 82, 83, 148, 149, 150, 151, 152, 153, 154, 155, 156, 157, 158, 166, 167, 168, 169, 170, 171, 172, 173, 165, 159, 160, 161, 162, 163, 164] (by decide +kernel) (by decide +kernel)
set_option maxRecDepth 20000 in
theorem gX3_carryOrderOutIn_X2_takeClap : GoodIn wsX3_carryOrderOutIn (wsV RX3 52 RX2 yX2_takeClap wsX2_takeClap) := goodIn_app (goodIn_of _ (by decide +kernel)) ggX3_carryOrderOutIn_X2_takeClap
set_option maxRecDepth 20000 in
theorem ggX3_carryOrderOutIn_X2_letPass : GoodIn wsX3_carryOrderOutIn wsX2_letPass := goodIn_r _ [87, 19, 88, 8, 38, 39, 16, 46, 47, 48, 25, 49, 27, 89, 10, 90, 91, 92, 42, 93, 94, 95, 96, 76, 97, 78, 81, 79, 80, 98, 82, 23, 24, 26, 83, 66, 67, 68, 22, 148, 149, 150, 151, 152, 153, 154, 155, 156, 157, 158, 165, 159, 160, 161, 162, 163, 164] (by decide +kernel) (by decide +kernel)
set_option maxRecDepth 20000 in
theorem gX3_carryOrderOutIn_X2_letPass : GoodIn wsX3_carryOrderOutIn (wsV RX3 55 RX2 yX2_letPass wsX2_letPass) := goodIn_app (goodIn_of _ (by decide +kernel)) ggX3_carryOrderOutIn_X2_letPass
set_option maxRecDepth 20000 in
theorem ggX3_carryOrderOutIn_X2_playEncore : GoodIn wsX3_carryOrderOutIn wsX2_playEncore := goodIn_r _ [102, 16, 39, 9, 10, 11, 103, 104, 105, 76, 106, 78, 80, 81, 107, 108, 109, 110, 111, 98, 47, 48, 25, 49, 27, 83, 66, 67, 68, 82, 23, 24, 26, 22, 12, 13, 14, 6, 15, 17, 8, 18, 19, 20, 21, 28, 29, 30, 31, 32, 33, 112, 113, 114, 115, 148, 149, 150, 151, 152, 153, 154, 155, 156, 157, 158, 159, 160, 161, 162, 163, 164, 165, 166, 167, 168, 169, 170, 171, 172, 173] (by decide +kernel) (by decide +kernel)
set_option maxRecDepth 20000 in
theorem gX3_carryOrderOutIn_X2_playEncore : GoodIn wsX3_carryOrderOutIn (wsV RX3 58 RX2 yX2_playEncore wsX2_playEncore) := goodIn_app (goodIn_of _ (by decide +kernel)) ggX3_carryOrderOutIn_X2_playEncore
set_option maxRecDepth 20000 in
theorem ggX3_carryOrderOutIn_X2_takeCurtain : GoodIn wsX3_carryOrderOutIn wsX2_takeCurtain := goodIn_r _ [119, 8, 38, 39, 46, 47, 48, 25, 49, 27, 22, 23, 24, 26, 148, 149, 150, 151, 152, 153, 154, 155, 156, 157, 158, 165] (by decide +kernel) (by decide +kernel)
set_option maxRecDepth 20000 in
theorem gX3_carryOrderOutIn_X2_takeCurtain : GoodIn wsX3_carryOrderOutIn (wsV RX3 61 RX2 yX2_takeCurtain wsX2_takeCurtain) := goodIn_app (goodIn_of _ (by decide +kernel)) ggX3_carryOrderOutIn_X2_takeCurtain
set_option maxRecDepth 20000 in
theorem ggX3_carryOrderOutIn_X2_endNight : GoodIn wsX3_carryOrderOutIn wsX2_endNight := goodIn_r _ [123, 124, 16, 19, 39, 125, 17, 8, 18, 94, 95, 96, 76, 97, 78, 81, 79, 80, 98, 47, 48, 25, 49, 27, 82, 23, 24, 26, 83, 66, 67, 68, 22, 126, 127, 6, 128, 46, 129, 130, 131, 132, 133, 134, 135, 136, 31, 137, 33, 55, 57, 138, 148, 149, 150, 151, 152, 153, 154, 155, 156, 157, 158, 159, 160, 161, 162, 163, 164, 165, 166, 167, 168, 169, 170, 171, 172, 173] (by decide +kernel) (by decide +kernel)
set_option maxRecDepth 20000 in
theorem gX3_carryOrderOutIn_X2_endNight : GoodIn wsX3_carryOrderOutIn (wsV RX3 64 RX2 yX2_endNight wsX2_endNight) := goodIn_app (goodIn_of _ (by decide +kernel)) ggX3_carryOrderOutIn_X2_endNight
set_option maxRecDepth 20000 in
theorem ggX3_carryOrderOutIn_X2_switchPay : GoodIn wsX3_carryOrderOutIn wsX2_switchPay := goodIn_r _ [142, 17, 44, 10, 45, 148, 149, 150, 151, 152, 153, 154, 155, 156, 157, 158, 166, 167, 168, 169, 170, 171, 172, 173] (by decide +kernel) (by decide +kernel)
set_option maxRecDepth 20000 in
theorem gX3_carryOrderOutIn_X2_switchPay : GoodIn wsX3_carryOrderOutIn (wsV RX3 67 RX2 yX2_switchPay wsX2_switchPay) := goodIn_app (goodIn_of _ (by decide +kernel)) ggX3_carryOrderOutIn_X2_switchPay
theorem dX3_carryOrderOutIn_0 : decode cX3_carryOrderOutIn 0 = .ok (.aload_n 0, 1) := by decide +kernel
theorem dX3_carryOrderOutIn_1 : decode cX3_carryOrderOutIn 1 = .ok (.getfield 40, 3) := by decide +kernel
theorem dX3_carryOrderOutIn_4 : decode cX3_carryOrderOutIn 4 = .ok (.lookupswitch 106 #[(99, 69), (101, 60), (107, 96), (110, 101), (112, 87), (119, 78)], 60) := by decide +kernel
theorem dX3_carryOrderOutIn_64 : decode cX3_carryOrderOutIn 64 = .ok (.aload_n 1, 1) := by decide +kernel
theorem dX3_carryOrderOutIn_65 : decode cX3_carryOrderOutIn 65 = .ok (.aload_n 0, 1) := by decide +kernel
theorem dX3_carryOrderOutIn_66 : decode cX3_carryOrderOutIn 66 = .ok (.getfield 43, 3) := by decide +kernel
theorem dX3_carryOrderOutIn_69 : decode cX3_carryOrderOutIn 69 = .ok (.invokevirtual 46, 3) := by decide +kernel
theorem dX3_carryOrderOutIn_72 : decode cX3_carryOrderOutIn 72 = .ok (.ireturn, 1) := by decide +kernel
theorem dX3_carryOrderOutIn_73 : decode cX3_carryOrderOutIn 73 = .ok (.aload_n 1, 1) := by decide +kernel
theorem dX3_carryOrderOutIn_74 : decode cX3_carryOrderOutIn 74 = .ok (.aload_n 0, 1) := by decide +kernel
theorem dX3_carryOrderOutIn_75 : decode cX3_carryOrderOutIn 75 = .ok (.getfield 43, 3) := by decide +kernel
theorem dX3_carryOrderOutIn_78 : decode cX3_carryOrderOutIn 78 = .ok (.invokevirtual 52, 3) := by decide +kernel
theorem dX3_carryOrderOutIn_81 : decode cX3_carryOrderOutIn 81 = .ok (.ireturn, 1) := by decide +kernel
theorem dX3_carryOrderOutIn_82 : decode cX3_carryOrderOutIn 82 = .ok (.aload_n 1, 1) := by decide +kernel
theorem dX3_carryOrderOutIn_83 : decode cX3_carryOrderOutIn 83 = .ok (.aload_n 0, 1) := by decide +kernel
theorem dX3_carryOrderOutIn_84 : decode cX3_carryOrderOutIn 84 = .ok (.getfield 43, 3) := by decide +kernel
theorem dX3_carryOrderOutIn_87 : decode cX3_carryOrderOutIn 87 = .ok (.invokevirtual 55, 3) := by decide +kernel
theorem dX3_carryOrderOutIn_90 : decode cX3_carryOrderOutIn 90 = .ok (.ireturn, 1) := by decide +kernel
theorem dX3_carryOrderOutIn_91 : decode cX3_carryOrderOutIn 91 = .ok (.aload_n 1, 1) := by decide +kernel
theorem dX3_carryOrderOutIn_92 : decode cX3_carryOrderOutIn 92 = .ok (.aload_n 0, 1) := by decide +kernel
theorem dX3_carryOrderOutIn_93 : decode cX3_carryOrderOutIn 93 = .ok (.getfield 43, 3) := by decide +kernel
theorem dX3_carryOrderOutIn_96 : decode cX3_carryOrderOutIn 96 = .ok (.invokevirtual 58, 3) := by decide +kernel
theorem dX3_carryOrderOutIn_99 : decode cX3_carryOrderOutIn 99 = .ok (.ireturn, 1) := by decide +kernel
theorem dX3_carryOrderOutIn_100 : decode cX3_carryOrderOutIn 100 = .ok (.aload_n 1, 1) := by decide +kernel
theorem dX3_carryOrderOutIn_101 : decode cX3_carryOrderOutIn 101 = .ok (.invokevirtual 61, 3) := by decide +kernel
theorem dX3_carryOrderOutIn_104 : decode cX3_carryOrderOutIn 104 = .ok (.ireturn, 1) := by decide +kernel
theorem dX3_carryOrderOutIn_105 : decode cX3_carryOrderOutIn 105 = .ok (.aload_n 1, 1) := by decide +kernel
theorem dX3_carryOrderOutIn_106 : decode cX3_carryOrderOutIn 106 = .ok (.invokevirtual 64, 3) := by decide +kernel
theorem dX3_carryOrderOutIn_109 : decode cX3_carryOrderOutIn 109 = .ok (.ireturn, 1) := by decide +kernel
theorem dX3_carryOrderOutIn_110 : decode cX3_carryOrderOutIn 110 = .ok (.aload_n 1, 1) := by decide +kernel
theorem dX3_carryOrderOutIn_111 : decode cX3_carryOrderOutIn 111 = .ok (.aload_n 0, 1) := by decide +kernel
theorem dX3_carryOrderOutIn_112 : decode cX3_carryOrderOutIn 112 = .ok (.getfield 43, 3) := by decide +kernel
theorem dX3_carryOrderOutIn_115 : decode cX3_carryOrderOutIn 115 = .ok (.invokevirtual 67, 3) := by decide +kernel
theorem dX3_carryOrderOutIn_118 : decode cX3_carryOrderOutIn 118 = .ok (.ireturn, 1) := by decide +kernel
set_option maxRecDepth 20000 in
theorem ggX3_readOrder_X4_codeAt : GoodIn wsX3_readOrder wsX4_codeAt := goodIn_r _ [9, 10, 11, 35, 36] (by decide +kernel) (by decide +kernel)
set_option maxRecDepth 20000 in
theorem gX3_readOrder_X4_codeAt : GoodIn wsX3_readOrder (wsV RX3 70 RX4 yX4_codeAt wsX4_codeAt) := goodIn_app (goodIn_of _ (by decide +kernel)) ggX3_readOrder_X4_codeAt
set_option maxRecDepth 20000 in
theorem ggX3_readOrder_X3_readNumber : GoodIn wsX3_readOrder wsX3_readNumber := goodIn_r _ [16, 17, 2, 18, 19, 20, 15, 21, 1, 5, 6, 7, 8, 9, 10, 11, 30, 31, 32, 33, 34, 35, 36] (by decide +kernel) (by decide +kernel)
set_option maxRecDepth 20000 in
theorem gX3_readOrder_X3_readNumber : GoodIn wsX3_readOrder (wsV RX3 73 RX3 yX3_readNumber wsX3_readNumber) := goodIn_app (goodIn_of _ (by decide +kernel)) ggX3_readOrder_X3_readNumber
set_option maxRecDepth 20000 in
theorem ggX3_readOrder_X3_readTimes : GoodIn wsX3_readOrder wsX3_readTimes := goodIn_r _ [25, 17, 4, 26, 27, 28, 15, 29, 1, 2, 5, 6, 7, 8, 9, 10, 11, 12, 13, 14, 16, 18, 19, 20, 21, 30, 31, 32, 33, 34, 35, 36] (by decide +kernel) (by decide +kernel)
set_option maxRecDepth 20000 in
theorem gX3_readOrder_X3_readTimes : GoodIn wsX3_readOrder (wsV RX3 77 RX3 yX3_readTimes wsX3_readTimes) := goodIn_app (goodIn_of _ (by decide +kernel)) ggX3_readOrder_X3_readTimes
theorem dX3_readOrder_0 : decode cX3_readOrder 0 = .ok (.aload_n 0, 1) := by decide +kernel
theorem dX3_readOrder_1 : decode cX3_readOrder 1 = .ok (.aload_n 0, 1) := by decide +kernel
theorem dX3_readOrder_2 : decode cX3_readOrder 2 = .ok (.getfield 9, 3) := by decide +kernel
theorem dX3_readOrder_5 : decode cX3_readOrder 5 = .ok (.aload_n 0, 1) := by decide +kernel
theorem dX3_readOrder_6 : decode cX3_readOrder 6 = .ok (.getfield 15, 3) := by decide +kernel
theorem dX3_readOrder_9 : decode cX3_readOrder 9 = .ok (.invokevirtual 70, 3) := by decide +kernel
theorem dX3_readOrder_12 : decode cX3_readOrder 12 = .ok (.putfield 40, 3) := by decide +kernel
theorem dX3_readOrder_15 : decode cX3_readOrder 15 = .ok (.aload_n 0, 1) := by decide +kernel
theorem dX3_readOrder_16 : decode cX3_readOrder 16 = .ok (.iconst 1, 1) := by decide +kernel
theorem dX3_readOrder_17 : decode cX3_readOrder 17 = .ok (.putfield 33, 3) := by decide +kernel
theorem dX3_readOrder_20 : decode cX3_readOrder 20 = .ok (.aload_n 0, 1) := by decide +kernel
theorem dX3_readOrder_21 : decode cX3_readOrder 21 = .ok (.getfield 40, 3) := by decide +kernel
theorem dX3_readOrder_24 : decode cX3_readOrder 24 = .ok (.tableswitch 175 99 119 #[144, 175, 112, 175, 175, 128, 175, 175, 100, 175, 175, 100, 175, 112, 175, 175, 175, 175, 175, 175, 128], 100) := by decide +kernel
theorem dX3_readOrder_124 : decode cX3_readOrder 124 = .ok (.aload_n 0, 1) := by decide +kernel
theorem dX3_readOrder_125 : decode cX3_readOrder 125 = .ok (.dup, 1) := by decide +kernel
theorem dX3_readOrder_126 : decode cX3_readOrder 126 = .ok (.getfield 15, 3) := by decide +kernel
theorem dX3_readOrder_129 : decode cX3_readOrder 129 = .ok (.iconst 1, 1) := by decide +kernel
theorem dX3_readOrder_130 : decode cX3_readOrder 130 = .ok (.iadd, 1) := by decide +kernel
theorem dX3_readOrder_131 : decode cX3_readOrder 131 = .ok (.putfield 15, 3) := by decide +kernel
theorem dX3_readOrder_134 : decode cX3_readOrder 134 = .ok (.iconst 1, 1) := by decide +kernel
theorem dX3_readOrder_135 : decode cX3_readOrder 135 = .ok (.ireturn, 1) := by decide +kernel
theorem dX3_readOrder_136 : decode cX3_readOrder 136 = .ok (.aload_n 0, 1) := by decide +kernel
theorem dX3_readOrder_137 : decode cX3_readOrder 137 = .ok (.dup, 1) := by decide +kernel
theorem dX3_readOrder_138 : decode cX3_readOrder 138 = .ok (.getfield 15, 3) := by decide +kernel
theorem dX3_readOrder_141 : decode cX3_readOrder 141 = .ok (.iconst 1, 1) := by decide +kernel
theorem dX3_readOrder_142 : decode cX3_readOrder 142 = .ok (.iadd, 1) := by decide +kernel
theorem dX3_readOrder_143 : decode cX3_readOrder 143 = .ok (.putfield 15, 3) := by decide +kernel
theorem dX3_readOrder_146 : decode cX3_readOrder 146 = .ok (.aload_n 0, 1) := by decide +kernel
theorem dX3_readOrder_147 : decode cX3_readOrder 147 = .ok (.iconst 1, 1) := by decide +kernel
theorem dX3_readOrder_148 : decode cX3_readOrder 148 = .ok (.invokevirtual 73, 3) := by decide +kernel
theorem dX3_readOrder_151 : decode cX3_readOrder 151 = .ok (.ireturn, 1) := by decide +kernel
theorem dX3_readOrder_152 : decode cX3_readOrder 152 = .ok (.aload_n 0, 1) := by decide +kernel
theorem dX3_readOrder_153 : decode cX3_readOrder 153 = .ok (.dup, 1) := by decide +kernel
theorem dX3_readOrder_154 : decode cX3_readOrder 154 = .ok (.getfield 15, 3) := by decide +kernel
theorem dX3_readOrder_157 : decode cX3_readOrder 157 = .ok (.iconst 1, 1) := by decide +kernel
theorem dX3_readOrder_158 : decode cX3_readOrder 158 = .ok (.iadd, 1) := by decide +kernel
theorem dX3_readOrder_159 : decode cX3_readOrder 159 = .ok (.putfield 15, 3) := by decide +kernel
theorem dX3_readOrder_162 : decode cX3_readOrder 162 = .ok (.aload_n 0, 1) := by decide +kernel
theorem dX3_readOrder_163 : decode cX3_readOrder 163 = .ok (.iconst 2, 1) := by decide +kernel
theorem dX3_readOrder_164 : decode cX3_readOrder 164 = .ok (.invokevirtual 73, 3) := by decide +kernel
theorem dX3_readOrder_167 : decode cX3_readOrder 167 = .ok (.ireturn, 1) := by decide +kernel
theorem dX3_readOrder_168 : decode cX3_readOrder 168 = .ok (.aload_n 0, 1) := by decide +kernel
theorem dX3_readOrder_169 : decode cX3_readOrder 169 = .ok (.dup, 1) := by decide +kernel
theorem dX3_readOrder_170 : decode cX3_readOrder 170 = .ok (.getfield 15, 3) := by decide +kernel
theorem dX3_readOrder_173 : decode cX3_readOrder 173 = .ok (.iconst 1, 1) := by decide +kernel
theorem dX3_readOrder_174 : decode cX3_readOrder 174 = .ok (.iadd, 1) := by decide +kernel
theorem dX3_readOrder_175 : decode cX3_readOrder 175 = .ok (.putfield 15, 3) := by decide +kernel
theorem dX3_readOrder_178 : decode cX3_readOrder 178 = .ok (.aload_n 0, 1) := by decide +kernel
theorem dX3_readOrder_179 : decode cX3_readOrder 179 = .ok (.iconst 2, 1) := by decide +kernel
theorem dX3_readOrder_180 : decode cX3_readOrder 180 = .ok (.invokevirtual 73, 3) := by decide +kernel
theorem dX3_readOrder_183 : decode cX3_readOrder 183 = .ok (.ifCond .eq 14, 3) := by decide +kernel
theorem dX3_readOrder_186 : decode cX3_readOrder 186 = .ok (.aload_n 0, 1) := by decide +kernel
theorem dX3_readOrder_187 : decode cX3_readOrder 187 = .ok (.invokevirtual 77, 3) := by decide +kernel
theorem dX3_readOrder_190 : decode cX3_readOrder 190 = .ok (.ifCond .eq 7, 3) := by decide +kernel
theorem dX3_readOrder_193 : decode cX3_readOrder 193 = .ok (.iconst 1, 1) := by decide +kernel
theorem dX3_readOrder_194 : decode cX3_readOrder 194 = .ok (.goto 4, 3) := by decide +kernel
theorem dX3_readOrder_197 : decode cX3_readOrder 197 = .ok (.iconst 0, 1) := by decide +kernel
theorem dX3_readOrder_198 : decode cX3_readOrder 198 = .ok (.ireturn, 1) := by decide +kernel
theorem dX3_readOrder_199 : decode cX3_readOrder 199 = .ok (.iconst 0, 1) := by decide +kernel
theorem dX3_readOrder_200 : decode cX3_readOrder 200 = .ok (.ireturn, 1) := by decide +kernel
set_option maxRecDepth 20000 in
theorem ggX3_readTimes_X3_readSign : GoodIn wsX3_readTimes wsX3_readSign := goodIn_r _ [7, 8, 9, 10, 11, 12, 13, 14, 15, 16, 25, 26, 27, 28, 29, 30, 31] (by decide +kernel) (by decide +kernel)
set_option maxRecDepth 20000 in
theorem gX3_readTimes_X3_readSign : GoodIn wsX3_readTimes (wsV RX3 29 RX3 yX3_readSign wsX3_readSign) := goodIn_app (goodIn_of _ (by decide +kernel)) ggX3_readTimes_X3_readSign
set_option maxRecDepth 20000 in
theorem ggX3_readTimes_X3_readNumber : GoodIn wsX3_readTimes wsX3_readNumber := goodIn_r _ [20, 1, 9, 21, 22, 23, 6, 24, 8, 10, 11, 12, 13, 14, 15, 16, 25, 26, 27, 28, 29, 30, 31] (by decide +kernel) (by decide +kernel)
set_option maxRecDepth 20000 in
theorem gX3_readTimes_X3_readNumber : GoodIn wsX3_readTimes (wsV RX3 73 RX3 yX3_readNumber wsX3_readNumber) := goodIn_app (goodIn_of _ (by decide +kernel)) ggX3_readTimes_X3_readNumber
theorem dX3_readTimes_0 : decode cX3_readTimes 0 = .ok (.aload_n 0, 1) := by decide +kernel
theorem dX3_readTimes_1 : decode cX3_readTimes 1 = .ok (.bipush 42, 2) := by decide +kernel
theorem dX3_readTimes_3 : decode cX3_readTimes 3 = .ok (.invokevirtual 29, 3) := by decide +kernel
theorem dX3_readTimes_6 : decode cX3_readTimes 6 = .ok (.ifCond .ne 5, 3) := by decide +kernel
theorem dX3_readTimes_9 : decode cX3_readTimes 9 = .ok (.iconst 1, 1) := by decide +kernel
theorem dX3_readTimes_10 : decode cX3_readTimes 10 = .ok (.ireturn, 1) := by decide +kernel
theorem dX3_readTimes_11 : decode cX3_readTimes 11 = .ok (.aload_n 0, 1) := by decide +kernel
theorem dX3_readTimes_12 : decode cX3_readTimes 12 = .ok (.getfield 43, 3) := by decide +kernel
theorem dX3_readTimes_15 : decode cX3_readTimes 15 = .ok (.istore_n 1, 1) := by decide +kernel
theorem dX3_readTimes_16 : decode cX3_readTimes 16 = .ok (.aload_n 0, 1) := by decide +kernel
theorem dX3_readTimes_17 : decode cX3_readTimes 17 = .ok (.iconst 2, 1) := by decide +kernel
theorem dX3_readTimes_18 : decode cX3_readTimes 18 = .ok (.invokevirtual 73, 3) := by decide +kernel
theorem dX3_readTimes_21 : decode cX3_readTimes 21 = .ok (.istore_n 2, 1) := by decide +kernel
theorem dX3_readTimes_22 : decode cX3_readTimes 22 = .ok (.aload_n 0, 1) := by decide +kernel
theorem dX3_readTimes_23 : decode cX3_readTimes 23 = .ok (.aload_n 0, 1) := by decide +kernel
theorem dX3_readTimes_24 : decode cX3_readTimes 24 = .ok (.getfield 43, 3) := by decide +kernel
theorem dX3_readTimes_27 : decode cX3_readTimes 27 = .ok (.putfield 33, 3) := by decide +kernel
theorem dX3_readTimes_30 : decode cX3_readTimes 30 = .ok (.aload_n 0, 1) := by decide +kernel
theorem dX3_readTimes_31 : decode cX3_readTimes 31 = .ok (.iload_n 1, 1) := by decide +kernel
theorem dX3_readTimes_32 : decode cX3_readTimes 32 = .ok (.putfield 43, 3) := by decide +kernel
theorem dX3_readTimes_35 : decode cX3_readTimes 35 = .ok (.iload_n 2, 1) := by decide +kernel
theorem dX3_readTimes_36 : decode cX3_readTimes 36 = .ok (.ireturn, 1) := by decide +kernel
set_option maxRecDepth 20000 in
theorem ggX3_readSign_X4_codeAt : GoodIn wsX3_readSign wsX4_codeAt := goodIn_r _ [7, 8, 9, 15, 16] (by decide +kernel) (by decide +kernel)
set_option maxRecDepth 20000 in
theorem gX3_readSign_X4_codeAt : GoodIn wsX3_readSign (wsV RX3 70 RX4 yX4_codeAt wsX4_codeAt) := goodIn_app (goodIn_of _ (by decide +kernel)) ggX3_readSign_X4_codeAt
theorem dX3_readSign_0 : decode cX3_readSign 0 = .ok (.aload_n 0, 1) := by decide +kernel
theorem dX3_readSign_1 : decode cX3_readSign 1 = .ok (.getfield 9, 3) := by decide +kernel
theorem dX3_readSign_4 : decode cX3_readSign 4 = .ok (.aload_n 0, 1) := by decide +kernel
theorem dX3_readSign_5 : decode cX3_readSign 5 = .ok (.getfield 15, 3) := by decide +kernel
theorem dX3_readSign_8 : decode cX3_readSign 8 = .ok (.invokevirtual 70, 3) := by decide +kernel
theorem dX3_readSign_11 : decode cX3_readSign 11 = .ok (.iload_n 1, 1) := by decide +kernel
theorem dX3_readSign_12 : decode cX3_readSign 12 = .ok (.if_icmp .eq 5, 3) := by decide +kernel
theorem dX3_readSign_15 : decode cX3_readSign 15 = .ok (.iconst 0, 1) := by decide +kernel
theorem dX3_readSign_16 : decode cX3_readSign 16 = .ok (.ireturn, 1) := by decide +kernel
theorem dX3_readSign_17 : decode cX3_readSign 17 = .ok (.aload_n 0, 1) := by decide +kernel
theorem dX3_readSign_18 : decode cX3_readSign 18 = .ok (.dup, 1) := by decide +kernel
theorem dX3_readSign_19 : decode cX3_readSign 19 = .ok (.getfield 15, 3) := by decide +kernel
theorem dX3_readSign_22 : decode cX3_readSign 22 = .ok (.iconst 1, 1) := by decide +kernel
theorem dX3_readSign_23 : decode cX3_readSign 23 = .ok (.iadd, 1) := by decide +kernel
theorem dX3_readSign_24 : decode cX3_readSign 24 = .ok (.putfield 15, 3) := by decide +kernel
theorem dX3_readSign_27 : decode cX3_readSign 27 = .ok (.iconst 1, 1) := by decide +kernel
theorem dX3_readSign_28 : decode cX3_readSign 28 = .ok (.ireturn, 1) := by decide +kernel
set_option maxRecDepth 20000 in
theorem ggX3_readNumber_X3_digitHere : GoodIn wsX3_readNumber wsX3_digitHere := goodIn_r _ [7, 8, 2, 9, 10, 11, 12, 13, 14, 15, 16, 17, 18, 19, 20, 21, 22] (by decide +kernel) (by decide +kernel)
set_option maxRecDepth 20000 in
theorem gX3_readNumber_X3_digitHere : GoodIn wsX3_readNumber (wsV RX3 80 RX3 yX3_digitHere wsX3_digitHere) := goodIn_app (goodIn_of _ (by decide +kernel)) ggX3_readNumber_X3_digitHere
theorem dX3_readNumber_0 : decode cX3_readNumber 0 = .ok (.aload_n 0, 1) := by decide +kernel
theorem dX3_readNumber_1 : decode cX3_readNumber 1 = .ok (.aload_n 0, 1) := by decide +kernel
theorem dX3_readNumber_2 : decode cX3_readNumber 2 = .ok (.invokevirtual 80, 3) := by decide +kernel
theorem dX3_readNumber_5 : decode cX3_readNumber 5 = .ok (.putfield 43, 3) := by decide +kernel
theorem dX3_readNumber_8 : decode cX3_readNumber 8 = .ok (.aload_n 0, 1) := by decide +kernel
theorem dX3_readNumber_9 : decode cX3_readNumber 9 = .ok (.getfield 43, 3) := by decide +kernel
theorem dX3_readNumber_12 : decode cX3_readNumber 12 = .ok (.ifCond .ge 5, 3) := by decide +kernel
theorem dX3_readNumber_15 : decode cX3_readNumber 15 = .ok (.iconst 0, 1) := by decide +kernel
theorem dX3_readNumber_16 : decode cX3_readNumber 16 = .ok (.ireturn, 1) := by decide +kernel
theorem dX3_readNumber_17 : decode cX3_readNumber 17 = .ok (.aload_n 0, 1) := by decide +kernel
theorem dX3_readNumber_18 : decode cX3_readNumber 18 = .ok (.dup, 1) := by decide +kernel
theorem dX3_readNumber_19 : decode cX3_readNumber 19 = .ok (.getfield 15, 3) := by decide +kernel
theorem dX3_readNumber_22 : decode cX3_readNumber 22 = .ok (.iconst 1, 1) := by decide +kernel
theorem dX3_readNumber_23 : decode cX3_readNumber 23 = .ok (.iadd, 1) := by decide +kernel
theorem dX3_readNumber_24 : decode cX3_readNumber 24 = .ok (.putfield 15, 3) := by decide +kernel
theorem dX3_readNumber_27 : decode cX3_readNumber 27 = .ok (.aload_n 0, 1) := by decide +kernel
theorem dX3_readNumber_28 : decode cX3_readNumber 28 = .ok (.invokevirtual 80, 3) := by decide +kernel
theorem dX3_readNumber_31 : decode cX3_readNumber 31 = .ok (.istore_n 2, 1) := by decide +kernel
theorem dX3_readNumber_32 : decode cX3_readNumber 32 = .ok (.iload_n 1, 1) := by decide +kernel
theorem dX3_readNumber_33 : decode cX3_readNumber 33 = .ok (.iconst 1, 1) := by decide +kernel
theorem dX3_readNumber_34 : decode cX3_readNumber 34 = .ok (.if_icmp .le 37, 3) := by decide +kernel
theorem dX3_readNumber_37 : decode cX3_readNumber 37 = .ok (.aload_n 0, 1) := by decide +kernel
theorem dX3_readNumber_38 : decode cX3_readNumber 38 = .ok (.getfield 43, 3) := by decide +kernel
theorem dX3_readNumber_41 : decode cX3_readNumber 41 = .ok (.ifCond .le 30, 3) := by decide +kernel
theorem dX3_readNumber_44 : decode cX3_readNumber 44 = .ok (.iload_n 2, 1) := by decide +kernel
theorem dX3_readNumber_45 : decode cX3_readNumber 45 = .ok (.ifCond .lt 26, 3) := by decide +kernel
theorem dX3_readNumber_48 : decode cX3_readNumber 48 = .ok (.aload_n 0, 1) := by decide +kernel
theorem dX3_readNumber_49 : decode cX3_readNumber 49 = .ok (.aload_n 0, 1) := by decide +kernel
theorem dX3_readNumber_50 : decode cX3_readNumber 50 = .ok (.getfield 43, 3) := by decide +kernel
theorem dX3_readNumber_53 : decode cX3_readNumber 53 = .ok (.bipush 10, 2) := by decide +kernel
theorem dX3_readNumber_55 : decode cX3_readNumber 55 = .ok (.imul, 1) := by decide +kernel
theorem dX3_readNumber_56 : decode cX3_readNumber 56 = .ok (.iload_n 2, 1) := by decide +kernel
theorem dX3_readNumber_57 : decode cX3_readNumber 57 = .ok (.iadd, 1) := by decide +kernel
theorem dX3_readNumber_58 : decode cX3_readNumber 58 = .ok (.putfield 43, 3) := by decide +kernel
theorem dX3_readNumber_61 : decode cX3_readNumber 61 = .ok (.aload_n 0, 1) := by decide +kernel
theorem dX3_readNumber_62 : decode cX3_readNumber 62 = .ok (.dup, 1) := by decide +kernel
theorem dX3_readNumber_63 : decode cX3_readNumber 63 = .ok (.getfield 15, 3) := by decide +kernel
theorem dX3_readNumber_66 : decode cX3_readNumber 66 = .ok (.iconst 1, 1) := by decide +kernel
theorem dX3_readNumber_67 : decode cX3_readNumber 67 = .ok (.iadd, 1) := by decide +kernel
theorem dX3_readNumber_68 : decode cX3_readNumber 68 = .ok (.putfield 15, 3) := by decide +kernel
theorem dX3_readNumber_71 : decode cX3_readNumber 71 = .ok (.iconst 1, 1) := by decide +kernel
theorem dX3_readNumber_72 : decode cX3_readNumber 72 = .ok (.ireturn, 1) := by decide +kernel
set_option maxRecDepth 20000 in
theorem ggX3_digitHere_X4_codeAt : GoodIn wsX3_digitHere wsX4_codeAt := goodIn_r _ [7, 8, 9, 15, 16] (by decide +kernel) (by decide +kernel)
set_option maxRecDepth 20000 in
theorem gX3_digitHere_X4_codeAt : GoodIn wsX3_digitHere (wsV RX3 70 RX4 yX4_codeAt wsX4_codeAt) := goodIn_app (goodIn_of _ (by decide +kernel)) ggX3_digitHere_X4_codeAt
theorem dX3_digitHere_0 : decode cX3_digitHere 0 = .ok (.aload_n 0, 1) := by decide +kernel
theorem dX3_digitHere_1 : decode cX3_digitHere 1 = .ok (.getfield 9, 3) := by decide +kernel
theorem dX3_digitHere_4 : decode cX3_digitHere 4 = .ok (.aload_n 0, 1) := by decide +kernel
theorem dX3_digitHere_5 : decode cX3_digitHere 5 = .ok (.getfield 15, 3) := by decide +kernel
theorem dX3_digitHere_8 : decode cX3_digitHere 8 = .ok (.invokevirtual 70, 3) := by decide +kernel
theorem dX3_digitHere_11 : decode cX3_digitHere 11 = .ok (.istore_n 1, 1) := by decide +kernel
theorem dX3_digitHere_12 : decode cX3_digitHere 12 = .ok (.iload_n 1, 1) := by decide +kernel
theorem dX3_digitHere_13 : decode cX3_digitHere 13 = .ok (.bipush 48, 2) := by decide +kernel
theorem dX3_digitHere_15 : decode cX3_digitHere 15 = .ok (.if_icmp .lt 16, 3) := by decide +kernel
theorem dX3_digitHere_18 : decode cX3_digitHere 18 = .ok (.iload_n 1, 1) := by decide +kernel
theorem dX3_digitHere_19 : decode cX3_digitHere 19 = .ok (.bipush 57, 2) := by decide +kernel
theorem dX3_digitHere_21 : decode cX3_digitHere 21 = .ok (.if_icmp .gt 10, 3) := by decide +kernel
theorem dX3_digitHere_24 : decode cX3_digitHere 24 = .ok (.iload_n 1, 1) := by decide +kernel
theorem dX3_digitHere_25 : decode cX3_digitHere 25 = .ok (.bipush 48, 2) := by decide +kernel
theorem dX3_digitHere_27 : decode cX3_digitHere 27 = .ok (.isub, 1) := by decide +kernel
theorem dX3_digitHere_28 : decode cX3_digitHere 28 = .ok (.goto 4, 3) := by decide +kernel
theorem dX3_digitHere_31 : decode cX3_digitHere 31 = .ok (.iconst (-1), 1) := by decide +kernel
theorem dX3_digitHere_32 : decode cX3_digitHere 32 = .ok (.ireturn, 1) := by decide +kernel
theorem dX4_init_0 : decode cX4_init 0 = .ok (.aload_n 0, 1) := by decide +kernel
theorem dX4_init_1 : decode cX4_init 1 = .ok (.invokespecial 3, 3) := by decide +kernel
theorem dX4_init_4 : decode cX4_init 4 = .ok (.aload_n 0, 1) := by decide +kernel
theorem dX4_init_5 : decode cX4_init 5 = .ok (.bipush 80, 2) := by decide +kernel
theorem dX4_init_7 : decode cX4_init 7 = .ok (.newarray .int, 2) := by decide +kernel
theorem dX4_init_9 : decode cX4_init 9 = .ok (.putfield 9, 3) := by decide +kernel
theorem dX4_init_12 : decode cX4_init 12 = .ok (.return_, 1) := by decide +kernel
theorem dX4_length_0 : decode cX4_length 0 = .ok (.aload_n 0, 1) := by decide +kernel
theorem dX4_length_1 : decode cX4_length 1 = .ok (.getfield 15, 3) := by decide +kernel
theorem dX4_length_4 : decode cX4_length 4 = .ok (.ireturn, 1) := by decide +kernel
theorem dX4_has_0 : decode cX4_has 0 = .ok (.iload_n 1, 1) := by decide +kernel
theorem dX4_has_1 : decode cX4_has 1 = .ok (.ifCond .lt 15, 3) := by decide +kernel
theorem dX4_has_4 : decode cX4_has 4 = .ok (.iload_n 1, 1) := by decide +kernel
theorem dX4_has_5 : decode cX4_has 5 = .ok (.aload_n 0, 1) := by decide +kernel
theorem dX4_has_6 : decode cX4_has 6 = .ok (.getfield 15, 3) := by decide +kernel
theorem dX4_has_9 : decode cX4_has 9 = .ok (.if_icmp .ge 7, 3) := by decide +kernel
theorem dX4_has_12 : decode cX4_has 12 = .ok (.iconst 1, 1) := by decide +kernel
theorem dX4_has_13 : decode cX4_has 13 = .ok (.goto 4, 3) := by decide +kernel
theorem dX4_has_16 : decode cX4_has 16 = .ok (.iconst 0, 1) := by decide +kernel
theorem dX4_has_17 : decode cX4_has 17 = .ok (.ireturn, 1) := by decide +kernel
theorem dX4_codeAt_0 : decode cX4_codeAt 0 = .ok (.iload_n 1, 1) := by decide +kernel
theorem dX4_codeAt_1 : decode cX4_codeAt 1 = .ok (.ifCond .lt 29, 3) := by decide +kernel
theorem dX4_codeAt_4 : decode cX4_codeAt 4 = .ok (.iload_n 1, 1) := by decide +kernel
theorem dX4_codeAt_5 : decode cX4_codeAt 5 = .ok (.aload_n 0, 1) := by decide +kernel
theorem dX4_codeAt_6 : decode cX4_codeAt 6 = .ok (.getfield 15, 3) := by decide +kernel
theorem dX4_codeAt_9 : decode cX4_codeAt 9 = .ok (.if_icmp .ge 21, 3) := by decide +kernel
theorem dX4_codeAt_12 : decode cX4_codeAt 12 = .ok (.iload_n 1, 1) := by decide +kernel
theorem dX4_codeAt_13 : decode cX4_codeAt 13 = .ok (.aload_n 0, 1) := by decide +kernel
theorem dX4_codeAt_14 : decode cX4_codeAt 14 = .ok (.getfield 9, 3) := by decide +kernel
theorem dX4_codeAt_17 : decode cX4_codeAt 17 = .ok (.arraylength, 1) := by decide +kernel
theorem dX4_codeAt_18 : decode cX4_codeAt 18 = .ok (.if_icmp .ge 12, 3) := by decide +kernel
theorem dX4_codeAt_21 : decode cX4_codeAt 21 = .ok (.aload_n 0, 1) := by decide +kernel
theorem dX4_codeAt_22 : decode cX4_codeAt 22 = .ok (.getfield 9, 3) := by decide +kernel
theorem dX4_codeAt_25 : decode cX4_codeAt 25 = .ok (.iload_n 1, 1) := by decide +kernel
theorem dX4_codeAt_26 : decode cX4_codeAt 26 = .ok (.iaload, 1) := by decide +kernel
theorem dX4_codeAt_27 : decode cX4_codeAt 27 = .ok (.goto 4, 3) := by decide +kernel
theorem dX4_codeAt_30 : decode cX4_codeAt 30 = .ok (.iconst 0, 1) := by decide +kernel
theorem dX4_codeAt_31 : decode cX4_codeAt 31 = .ok (.ireturn, 1) := by decide +kernel
theorem dX4_clear_0 : decode cX4_clear 0 = .ok (.aload_n 0, 1) := by decide +kernel
theorem dX4_clear_1 : decode cX4_clear 1 = .ok (.iconst 0, 1) := by decide +kernel
theorem dX4_clear_2 : decode cX4_clear 2 = .ok (.putfield 15, 3) := by decide +kernel
theorem dX4_clear_5 : decode cX4_clear 5 = .ok (.return_, 1) := by decide +kernel
theorem dX4_append_0 : decode cX4_append 0 = .ok (.aload_n 0, 1) := by decide +kernel
theorem dX4_append_1 : decode cX4_append 1 = .ok (.getfield 15, 3) := by decide +kernel
theorem dX4_append_4 : decode cX4_append 4 = .ok (.ifCond .lt 35, 3) := by decide +kernel
theorem dX4_append_7 : decode cX4_append 7 = .ok (.aload_n 0, 1) := by decide +kernel
theorem dX4_append_8 : decode cX4_append 8 = .ok (.getfield 15, 3) := by decide +kernel
theorem dX4_append_11 : decode cX4_append 11 = .ok (.aload_n 0, 1) := by decide +kernel
theorem dX4_append_12 : decode cX4_append 12 = .ok (.getfield 9, 3) := by decide +kernel
theorem dX4_append_15 : decode cX4_append 15 = .ok (.arraylength, 1) := by decide +kernel
theorem dX4_append_16 : decode cX4_append 16 = .ok (.if_icmp .ge 23, 3) := by decide +kernel
theorem dX4_append_19 : decode cX4_append 19 = .ok (.aload_n 0, 1) := by decide +kernel
theorem dX4_append_20 : decode cX4_append 20 = .ok (.getfield 9, 3) := by decide +kernel
theorem dX4_append_23 : decode cX4_append 23 = .ok (.aload_n 0, 1) := by decide +kernel
theorem dX4_append_24 : decode cX4_append 24 = .ok (.getfield 15, 3) := by decide +kernel
theorem dX4_append_27 : decode cX4_append 27 = .ok (.iload_n 1, 1) := by decide +kernel
theorem dX4_append_28 : decode cX4_append 28 = .ok (.iastore, 1) := by decide +kernel
theorem dX4_append_29 : decode cX4_append 29 = .ok (.aload_n 0, 1) := by decide +kernel
theorem dX4_append_30 : decode cX4_append 30 = .ok (.dup, 1) := by decide +kernel
theorem dX4_append_31 : decode cX4_append 31 = .ok (.getfield 15, 3) := by decide +kernel
theorem dX4_append_34 : decode cX4_append 34 = .ok (.iconst 1, 1) := by decide +kernel
theorem dX4_append_35 : decode cX4_append 35 = .ok (.iadd, 1) := by decide +kernel
theorem dX4_append_36 : decode cX4_append 36 = .ok (.putfield 15, 3) := by decide +kernel
theorem dX4_append_39 : decode cX4_append 39 = .ok (.return_, 1) := by decide +kernel
set_option maxRecDepth 20000 in
theorem ggX4_appendPart_X4_append : GoodIn wsX4_appendPart wsX4_append := goodIn_r _ [6, 7, 8, 9, 10] (by decide +kernel) (by decide +kernel)
set_option maxRecDepth 20000 in
theorem gX4_appendPart_X4_append : GoodIn wsX4_appendPart (wsV RX4 19 RX4 yX4_append wsX4_append) := goodIn_app (goodIn_of _ (by decide +kernel)) ggX4_appendPart_X4_append
theorem dX4_appendPart_0 : decode cX4_appendPart 0 = .ok (.aload_n 0, 1) := by decide +kernel
theorem dX4_appendPart_1 : decode cX4_appendPart 1 = .ok (.iload_n 1, 1) := by decide +kernel
theorem dX4_appendPart_2 : decode cX4_appendPart 2 = .ok (.invokevirtual 19, 3) := by decide +kernel
theorem dX4_appendPart_5 : decode cX4_appendPart 5 = .ok (.iconst 0, 1) := by decide +kernel
theorem dX4_appendPart_6 : decode cX4_appendPart 6 = .ok (.istore_n 3, 1) := by decide +kernel
theorem dX4_appendPart_7 : decode cX4_appendPart 7 = .ok (.ldc 23, 2) := by decide +kernel
theorem dX4_appendPart_9 : decode cX4_appendPart 9 = .ok (.istore 4, 2) := by decide +kernel
theorem dX4_appendPart_11 : decode cX4_appendPart 11 = .ok (.iload 4, 2) := by decide +kernel
theorem dX4_appendPart_13 : decode cX4_appendPart 13 = .ok (.ifCond .le 56, 3) := by decide +kernel
theorem dX4_appendPart_16 : decode cX4_appendPart 16 = .ok (.iload_n 2, 1) := by decide +kernel
theorem dX4_appendPart_17 : decode cX4_appendPart 17 = .ok (.iload 4, 2) := by decide +kernel
theorem dX4_appendPart_19 : decode cX4_appendPart 19 = .ok (.idiv, 1) := by decide +kernel
theorem dX4_appendPart_20 : decode cX4_appendPart 20 = .ok (.bipush 10, 2) := by decide +kernel
theorem dX4_appendPart_22 : decode cX4_appendPart 22 = .ok (.irem, 1) := by decide +kernel
theorem dX4_appendPart_23 : decode cX4_appendPart 23 = .ok (.istore 5, 2) := by decide +kernel
theorem dX4_appendPart_25 : decode cX4_appendPart 25 = .ok (.iload_n 3, 1) := by decide +kernel
theorem dX4_appendPart_26 : decode cX4_appendPart 26 = .ok (.ifCond .ne 14, 3) := by decide +kernel
theorem dX4_appendPart_29 : decode cX4_appendPart 29 = .ok (.iload 5, 2) := by decide +kernel
theorem dX4_appendPart_31 : decode cX4_appendPart 31 = .ok (.ifCond .gt 9, 3) := by decide +kernel
theorem dX4_appendPart_34 : decode cX4_appendPart 34 = .ok (.iload 4, 2) := by decide +kernel
theorem dX4_appendPart_36 : decode cX4_appendPart 36 = .ok (.iconst 1, 1) := by decide +kernel
theorem dX4_appendPart_37 : decode cX4_appendPart 37 = .ok (.if_icmp .ne 7, 3) := by decide +kernel
theorem dX4_appendPart_40 : decode cX4_appendPart 40 = .ok (.iconst 1, 1) := by decide +kernel
theorem dX4_appendPart_41 : decode cX4_appendPart 41 = .ok (.goto 4, 3) := by decide +kernel
theorem dX4_appendPart_44 : decode cX4_appendPart 44 = .ok (.iconst 0, 1) := by decide +kernel
theorem dX4_appendPart_45 : decode cX4_appendPart 45 = .ok (.istore_n 3, 1) := by decide +kernel
theorem dX4_appendPart_46 : decode cX4_appendPart 46 = .ok (.iload_n 3, 1) := by decide +kernel
theorem dX4_appendPart_47 : decode cX4_appendPart 47 = .ok (.ifCond .eq 12, 3) := by decide +kernel
theorem dX4_appendPart_50 : decode cX4_appendPart 50 = .ok (.aload_n 0, 1) := by decide +kernel
theorem dX4_appendPart_51 : decode cX4_appendPart 51 = .ok (.bipush 48, 2) := by decide +kernel
theorem dX4_appendPart_53 : decode cX4_appendPart 53 = .ok (.iload 5, 2) := by decide +kernel
theorem dX4_appendPart_55 : decode cX4_appendPart 55 = .ok (.iadd, 1) := by decide +kernel
theorem dX4_appendPart_56 : decode cX4_appendPart 56 = .ok (.invokevirtual 19, 3) := by decide +kernel
theorem dX4_appendPart_59 : decode cX4_appendPart 59 = .ok (.iload 4, 2) := by decide +kernel
theorem dX4_appendPart_61 : decode cX4_appendPart 61 = .ok (.bipush 10, 2) := by decide +kernel
theorem dX4_appendPart_63 : decode cX4_appendPart 63 = .ok (.idiv, 1) := by decide +kernel
theorem dX4_appendPart_64 : decode cX4_appendPart 64 = .ok (.istore 4, 2) := by decide +kernel
theorem dX4_appendPart_66 : decode cX4_appendPart 66 = .ok (.goto (-55), 3) := by decide +kernel
theorem dX4_appendPart_69 : decode cX4_appendPart 69 = .ok (.return_, 1) := by decide +kernel
set_option maxRecDepth 20000 in
theorem ggX4_appendAll_X4_amountOf : GoodIn wsX4_appendAll wsX4_amountOf := goodIn_r _ [6, 2] (by decide +kernel) (by decide +kernel)
set_option maxRecDepth 20000 in
theorem gX4_appendAll_X4_amountOf : GoodIn wsX4_appendAll (va_wsS RX4 24 yX4_amountOf wsX4_amountOf) := goodIn_app (goodIn_of _ (by decide +kernel)) ggX4_appendAll_X4_amountOf
set_option maxRecDepth 20000 in
theorem ggX4_appendAll_X4_append : GoodIn wsX4_appendAll wsX4_append := goodIn_r _ [10, 1, 11, 12, 13] (by decide +kernel) (by decide +kernel)
set_option maxRecDepth 20000 in
theorem gX4_appendAll_X4_append : GoodIn wsX4_appendAll (wsV RX4 19 RX4 yX4_append wsX4_append) := goodIn_app (goodIn_of _ (by decide +kernel)) ggX4_appendAll_X4_append
theorem dX4_appendAll_0 : decode cX4_appendAll 0 = .ok (.lload_n 1, 1) := by decide +kernel
theorem dX4_appendAll_1 : decode cX4_appendAll 1 = .ok (.invokestatic 24, 3) := by decide +kernel
theorem dX4_appendAll_4 : decode cX4_appendAll 4 = .ok (.istore_n 3, 1) := by decide +kernel
theorem dX4_appendAll_5 : decode cX4_appendAll 5 = .ok (.iload_n 3, 1) := by decide +kernel
theorem dX4_appendAll_6 : decode cX4_appendAll 6 = .ok (.ifCond .ge 5, 3) := by decide +kernel
theorem dX4_appendAll_9 : decode cX4_appendAll 9 = .ok (.iload_n 3, 1) := by decide +kernel
theorem dX4_appendAll_10 : decode cX4_appendAll 10 = .ok (.ireturn, 1) := by decide +kernel
theorem dX4_appendAll_11 : decode cX4_appendAll 11 = .ok (.aload_n 0, 1) := by decide +kernel
theorem dX4_appendAll_12 : decode cX4_appendAll 12 = .ok (.getfield 15, 3) := by decide +kernel
theorem dX4_appendAll_15 : decode cX4_appendAll 15 = .ok (.iload_n 3, 1) := by decide +kernel
theorem dX4_appendAll_16 : decode cX4_appendAll 16 = .ok (.iadd, 1) := by decide +kernel
theorem dX4_appendAll_17 : decode cX4_appendAll 17 = .ok (.bipush 80, 2) := by decide +kernel
theorem dX4_appendAll_19 : decode cX4_appendAll 19 = .ok (.if_icmp .le 6, 3) := by decide +kernel
theorem dX4_appendAll_22 : decode cX4_appendAll 22 = .ok (.bipush (-4), 2) := by decide +kernel
theorem dX4_appendAll_24 : decode cX4_appendAll 24 = .ok (.ireturn, 1) := by decide +kernel
theorem dX4_appendAll_25 : decode cX4_appendAll 25 = .ok (.iload_n 3, 1) := by decide +kernel
theorem dX4_appendAll_26 : decode cX4_appendAll 26 = .ok (.iconst 1, 1) := by decide +kernel
theorem dX4_appendAll_27 : decode cX4_appendAll 27 = .ok (.isub, 1) := by decide +kernel
theorem dX4_appendAll_28 : decode cX4_appendAll 28 = .ok (.istore 4, 2) := by decide +kernel
theorem dX4_appendAll_30 : decode cX4_appendAll 30 = .ok (.iload 4, 2) := by decide +kernel
theorem dX4_appendAll_32 : decode cX4_appendAll 32 = .ok (.ifCond .lt 25, 3) := by decide +kernel
theorem dX4_appendAll_35 : decode cX4_appendAll 35 = .ok (.aload_n 0, 1) := by decide +kernel
theorem dX4_appendAll_36 : decode cX4_appendAll 36 = .ok (.lload_n 1, 1) := by decide +kernel
theorem dX4_appendAll_37 : decode cX4_appendAll 37 = .ok (.bipush 8, 2) := by decide +kernel
theorem dX4_appendAll_39 : decode cX4_appendAll 39 = .ok (.iload 4, 2) := by decide +kernel
theorem dX4_appendAll_41 : decode cX4_appendAll 41 = .ok (.imul, 1) := by decide +kernel
theorem dX4_appendAll_42 : decode cX4_appendAll 42 = .ok (.lushr, 1) := by decide +kernel
theorem dX4_appendAll_43 : decode cX4_appendAll 43 = .ok (.ldc2_w 28, 3) := by decide +kernel
theorem dX4_appendAll_46 : decode cX4_appendAll 46 = .ok (.land, 1) := by decide +kernel
theorem dX4_appendAll_47 : decode cX4_appendAll 47 = .ok (.l2i, 1) := by decide +kernel
theorem dX4_appendAll_48 : decode cX4_appendAll 48 = .ok (.invokevirtual 19, 3) := by decide +kernel
theorem dX4_appendAll_51 : decode cX4_appendAll 51 = .ok (.iinc 4 (-1), 3) := by decide +kernel
theorem dX4_appendAll_54 : decode cX4_appendAll 54 = .ok (.goto (-24), 3) := by decide +kernel
theorem dX4_appendAll_57 : decode cX4_appendAll 57 = .ok (.aload_n 0, 1) := by decide +kernel
theorem dX4_appendAll_58 : decode cX4_appendAll 58 = .ok (.getfield 15, 3) := by decide +kernel
theorem dX4_appendAll_61 : decode cX4_appendAll 61 = .ok (.ireturn, 1) := by decide +kernel
theorem dX4_amountOf_0 : decode cX4_amountOf 0 = .ok (.iconst 0, 1) := by decide +kernel
theorem dX4_amountOf_1 : decode cX4_amountOf 1 = .ok (.istore_n 2, 1) := by decide +kernel
theorem dX4_amountOf_2 : decode cX4_amountOf 2 = .ok (.lload_n 0, 1) := by decide +kernel
theorem dX4_amountOf_3 : decode cX4_amountOf 3 = .ok (.lstore_n 3, 1) := by decide +kernel
theorem dX4_amountOf_4 : decode cX4_amountOf 4 = .ok (.iload_n 2, 1) := by decide +kernel
theorem dX4_amountOf_5 : decode cX4_amountOf 5 = .ok (.bipush 8, 2) := by decide +kernel
theorem dX4_amountOf_7 : decode cX4_amountOf 7 = .ok (.if_icmp .ge 45, 3) := by decide +kernel
theorem dX4_amountOf_10 : decode cX4_amountOf 10 = .ok (.lload_n 3, 1) := by decide +kernel
theorem dX4_amountOf_11 : decode cX4_amountOf 11 = .ok (.lconst 0, 1) := by decide +kernel
theorem dX4_amountOf_12 : decode cX4_amountOf 12 = .ok (.lcmp, 1) := by decide +kernel
theorem dX4_amountOf_13 : decode cX4_amountOf 13 = .ok (.ifCond .eq 39, 3) := by decide +kernel
theorem dX4_amountOf_16 : decode cX4_amountOf 16 = .ok (.lload_n 3, 1) := by decide +kernel
theorem dX4_amountOf_17 : decode cX4_amountOf 17 = .ok (.ldc2_w 28, 3) := by decide +kernel
theorem dX4_amountOf_20 : decode cX4_amountOf 20 = .ok (.land, 1) := by decide +kernel
theorem dX4_amountOf_21 : decode cX4_amountOf 21 = .ok (.l2i, 1) := by decide +kernel
theorem dX4_amountOf_22 : decode cX4_amountOf 22 = .ok (.istore 5, 2) := by decide +kernel
theorem dX4_amountOf_24 : decode cX4_amountOf 24 = .ok (.iload 5, 2) := by decide +kernel
theorem dX4_amountOf_26 : decode cX4_amountOf 26 = .ok (.bipush 33, 2) := by decide +kernel
theorem dX4_amountOf_28 : decode cX4_amountOf 28 = .ok (.if_icmp .lt 10, 3) := by decide +kernel
theorem dX4_amountOf_31 : decode cX4_amountOf 31 = .ok (.iload 5, 2) := by decide +kernel
theorem dX4_amountOf_33 : decode cX4_amountOf 33 = .ok (.bipush 126, 2) := by decide +kernel
theorem dX4_amountOf_35 : decode cX4_amountOf 35 = .ok (.if_icmp .le 6, 3) := by decide +kernel
theorem dX4_amountOf_38 : decode cX4_amountOf 38 = .ok (.bipush (-2), 2) := by decide +kernel
theorem dX4_amountOf_40 : decode cX4_amountOf 40 = .ok (.ireturn, 1) := by decide +kernel
theorem dX4_amountOf_41 : decode cX4_amountOf 41 = .ok (.lload_n 3, 1) := by decide +kernel
theorem dX4_amountOf_42 : decode cX4_amountOf 42 = .ok (.bipush 8, 2) := by decide +kernel
theorem dX4_amountOf_44 : decode cX4_amountOf 44 = .ok (.lushr, 1) := by decide +kernel
theorem dX4_amountOf_45 : decode cX4_amountOf 45 = .ok (.lstore_n 3, 1) := by decide +kernel
theorem dX4_amountOf_46 : decode cX4_amountOf 46 = .ok (.iinc 2 1, 3) := by decide +kernel
theorem dX4_amountOf_49 : decode cX4_amountOf 49 = .ok (.goto (-45), 3) := by decide +kernel
theorem dX4_amountOf_52 : decode cX4_amountOf 52 = .ok (.iload_n 2, 1) := by decide +kernel
theorem dX4_amountOf_53 : decode cX4_amountOf 53 = .ok (.ifCond .ne 8, 3) := by decide +kernel
theorem dX4_amountOf_56 : decode cX4_amountOf 56 = .ok (.bipush (-2), 2) := by decide +kernel
theorem dX4_amountOf_58 : decode cX4_amountOf 58 = .ok (.goto 4, 3) := by decide +kernel
theorem dX4_amountOf_61 : decode cX4_amountOf 61 = .ok (.iload_n 2, 1) := by decide +kernel
theorem dX4_amountOf_62 : decode cX4_amountOf 62 = .ok (.ireturn, 1) := by decide +kernel
theorem dX5_init_0 : decode cX5_init 0 = .ok (.aload_n 0, 1) := by decide +kernel
theorem dX5_init_1 : decode cX5_init 1 = .ok (.invokespecial 1, 3) := by decide +kernel
theorem dX5_init_4 : decode cX5_init 4 = .ok (.aload_n 0, 1) := by decide +kernel
theorem dX5_init_5 : decode cX5_init 5 = .ok (.iload_n 1, 1) := by decide +kernel
theorem dX5_init_6 : decode cX5_init 6 = .ok (.iconst 0, 1) := by decide +kernel
theorem dX5_init_7 : decode cX5_init 7 = .ok (.invokestatic 7, 3) := by decide +kernel
theorem dX5_init_10 : decode cX5_init 10 = .ok (.newarray .int, 2) := by decide +kernel
theorem dX5_init_12 : decode cX5_init 12 = .ok (.putfield 13, 3) := by decide +kernel
theorem dX5_init_15 : decode cX5_init 15 = .ok (.return_, 1) := by decide +kernel
theorem dX5_at_0 : decode cX5_at 0 = .ok (.iload_n 1, 1) := by decide +kernel
theorem dX5_at_1 : decode cX5_at 1 = .ok (.ifCond .lt 21, 3) := by decide +kernel
theorem dX5_at_4 : decode cX5_at 4 = .ok (.iload_n 1, 1) := by decide +kernel
theorem dX5_at_5 : decode cX5_at 5 = .ok (.aload_n 0, 1) := by decide +kernel
theorem dX5_at_6 : decode cX5_at 6 = .ok (.getfield 13, 3) := by decide +kernel
theorem dX5_at_9 : decode cX5_at 9 = .ok (.arraylength, 1) := by decide +kernel
theorem dX5_at_10 : decode cX5_at 10 = .ok (.if_icmp .ge 12, 3) := by decide +kernel
theorem dX5_at_13 : decode cX5_at 13 = .ok (.aload_n 0, 1) := by decide +kernel
theorem dX5_at_14 : decode cX5_at 14 = .ok (.getfield 13, 3) := by decide +kernel
theorem dX5_at_17 : decode cX5_at 17 = .ok (.iload_n 1, 1) := by decide +kernel
theorem dX5_at_18 : decode cX5_at 18 = .ok (.iaload, 1) := by decide +kernel
theorem dX5_at_19 : decode cX5_at 19 = .ok (.goto 4, 3) := by decide +kernel
theorem dX5_at_22 : decode cX5_at 22 = .ok (.iconst 0, 1) := by decide +kernel
theorem dX5_at_23 : decode cX5_at 23 = .ok (.ireturn, 1) := by decide +kernel
theorem dX5_store_0 : decode cX5_store 0 = .ok (.iload_n 1, 1) := by decide +kernel
theorem dX5_store_1 : decode cX5_store 1 = .ok (.ifCond .lt 19, 3) := by decide +kernel
theorem dX5_store_4 : decode cX5_store 4 = .ok (.iload_n 1, 1) := by decide +kernel
theorem dX5_store_5 : decode cX5_store 5 = .ok (.aload_n 0, 1) := by decide +kernel
theorem dX5_store_6 : decode cX5_store 6 = .ok (.getfield 13, 3) := by decide +kernel
theorem dX5_store_9 : decode cX5_store 9 = .ok (.arraylength, 1) := by decide +kernel
theorem dX5_store_10 : decode cX5_store 10 = .ok (.if_icmp .ge 10, 3) := by decide +kernel
theorem dX5_store_13 : decode cX5_store 13 = .ok (.aload_n 0, 1) := by decide +kernel
theorem dX5_store_14 : decode cX5_store 14 = .ok (.getfield 13, 3) := by decide +kernel
theorem dX5_store_17 : decode cX5_store 17 = .ok (.iload_n 1, 1) := by decide +kernel
theorem dX5_store_18 : decode cX5_store 18 = .ok (.iload_n 2, 1) := by decide +kernel
theorem dX5_store_19 : decode cX5_store 19 = .ok (.iastore, 1) := by decide +kernel
theorem dX5_store_20 : decode cX5_store 20 = .ok (.return_, 1) := by decide +kernel
theorem dX5_add_0 : decode cX5_add 0 = .ok (.iload_n 1, 1) := by decide +kernel
theorem dX5_add_1 : decode cX5_add 1 = .ok (.ifCond .lt 22, 3) := by decide +kernel
theorem dX5_add_4 : decode cX5_add 4 = .ok (.iload_n 1, 1) := by decide +kernel
theorem dX5_add_5 : decode cX5_add 5 = .ok (.aload_n 0, 1) := by decide +kernel
theorem dX5_add_6 : decode cX5_add 6 = .ok (.getfield 13, 3) := by decide +kernel
theorem dX5_add_9 : decode cX5_add 9 = .ok (.arraylength, 1) := by decide +kernel
theorem dX5_add_10 : decode cX5_add 10 = .ok (.if_icmp .ge 13, 3) := by decide +kernel
theorem dX5_add_13 : decode cX5_add 13 = .ok (.aload_n 0, 1) := by decide +kernel
theorem dX5_add_14 : decode cX5_add 14 = .ok (.getfield 13, 3) := by decide +kernel
theorem dX5_add_17 : decode cX5_add 17 = .ok (.iload_n 1, 1) := by decide +kernel
theorem dX5_add_18 : decode cX5_add 18 = .ok (.dup2, 1) := by decide +kernel
theorem dX5_add_19 : decode cX5_add 19 = .ok (.iaload, 1) := by decide +kernel
theorem dX5_add_20 : decode cX5_add 20 = .ok (.iload_n 2, 1) := by decide +kernel
theorem dX5_add_21 : decode cX5_add 21 = .ok (.iadd, 1) := by decide +kernel
theorem dX5_add_22 : decode cX5_add 22 = .ok (.iastore, 1) := by decide +kernel
theorem dX5_add_23 : decode cX5_add 23 = .ok (.return_, 1) := by decide +kernel
theorem dX5_fill_0 : decode cX5_fill 0 = .ok (.iconst 0, 1) := by decide +kernel
theorem dX5_fill_1 : decode cX5_fill 1 = .ok (.istore_n 2, 1) := by decide +kernel
theorem dX5_fill_2 : decode cX5_fill 2 = .ok (.iload_n 2, 1) := by decide +kernel
theorem dX5_fill_3 : decode cX5_fill 3 = .ok (.aload_n 0, 1) := by decide +kernel
theorem dX5_fill_4 : decode cX5_fill 4 = .ok (.getfield 13, 3) := by decide +kernel
theorem dX5_fill_7 : decode cX5_fill 7 = .ok (.arraylength, 1) := by decide +kernel
theorem dX5_fill_8 : decode cX5_fill 8 = .ok (.if_icmp .ge 16, 3) := by decide +kernel
theorem dX5_fill_11 : decode cX5_fill 11 = .ok (.aload_n 0, 1) := by decide +kernel
theorem dX5_fill_12 : decode cX5_fill 12 = .ok (.getfield 13, 3) := by decide +kernel
theorem dX5_fill_15 : decode cX5_fill 15 = .ok (.iload_n 2, 1) := by decide +kernel
theorem dX5_fill_16 : decode cX5_fill 16 = .ok (.iload_n 1, 1) := by decide +kernel
theorem dX5_fill_17 : decode cX5_fill 17 = .ok (.iastore, 1) := by decide +kernel
theorem dX5_fill_18 : decode cX5_fill 18 = .ok (.iinc 2 1, 3) := by decide +kernel
theorem dX5_fill_21 : decode cX5_fill 21 = .ok (.goto (-19), 3) := by decide +kernel
theorem dX5_fill_24 : decode cX5_fill 24 = .ok (.return_, 1) := by decide +kernel
theorem dX5_sum_0 : decode cX5_sum 0 = .ok (.iconst 0, 1) := by decide +kernel
theorem dX5_sum_1 : decode cX5_sum 1 = .ok (.istore_n 1, 1) := by decide +kernel
theorem dX5_sum_2 : decode cX5_sum 2 = .ok (.iconst 0, 1) := by decide +kernel
theorem dX5_sum_3 : decode cX5_sum 3 = .ok (.istore_n 2, 1) := by decide +kernel
theorem dX5_sum_4 : decode cX5_sum 4 = .ok (.iload_n 2, 1) := by decide +kernel
theorem dX5_sum_5 : decode cX5_sum 5 = .ok (.aload_n 0, 1) := by decide +kernel
theorem dX5_sum_6 : decode cX5_sum 6 = .ok (.getfield 13, 3) := by decide +kernel
theorem dX5_sum_9 : decode cX5_sum 9 = .ok (.arraylength, 1) := by decide +kernel
theorem dX5_sum_10 : decode cX5_sum 10 = .ok (.if_icmp .ge 18, 3) := by decide +kernel
theorem dX5_sum_13 : decode cX5_sum 13 = .ok (.iload_n 1, 1) := by decide +kernel
theorem dX5_sum_14 : decode cX5_sum 14 = .ok (.aload_n 0, 1) := by decide +kernel
theorem dX5_sum_15 : decode cX5_sum 15 = .ok (.getfield 13, 3) := by decide +kernel
theorem dX5_sum_18 : decode cX5_sum 18 = .ok (.iload_n 2, 1) := by decide +kernel
theorem dX5_sum_19 : decode cX5_sum 19 = .ok (.iaload, 1) := by decide +kernel
theorem dX5_sum_20 : decode cX5_sum 20 = .ok (.iadd, 1) := by decide +kernel
theorem dX5_sum_21 : decode cX5_sum 21 = .ok (.istore_n 1, 1) := by decide +kernel
theorem dX5_sum_22 : decode cX5_sum 22 = .ok (.iinc 2 1, 3) := by decide +kernel
theorem dX5_sum_25 : decode cX5_sum 25 = .ok (.goto (-21), 3) := by decide +kernel
theorem dX5_sum_28 : decode cX5_sum 28 = .ok (.iload_n 1, 1) := by decide +kernel
theorem dX5_sum_29 : decode cX5_sum 29 = .ok (.ireturn, 1) := by decide +kernel
theorem dX5_copyFrom_0 : decode cX5_copyFrom 0 = .ok (.aload_n 1, 1) := by decide +kernel
theorem dX5_copyFrom_1 : decode cX5_copyFrom 1 = .ok (.getfield 13, 3) := by decide +kernel
theorem dX5_copyFrom_4 : decode cX5_copyFrom 4 = .ok (.iconst 0, 1) := by decide +kernel
theorem dX5_copyFrom_5 : decode cX5_copyFrom 5 = .ok (.aload_n 0, 1) := by decide +kernel
theorem dX5_copyFrom_6 : decode cX5_copyFrom 6 = .ok (.getfield 13, 3) := by decide +kernel
theorem dX5_copyFrom_9 : decode cX5_copyFrom 9 = .ok (.iconst 0, 1) := by decide +kernel
theorem dX5_copyFrom_10 : decode cX5_copyFrom 10 = .ok (.aload_n 0, 1) := by decide +kernel
theorem dX5_copyFrom_11 : decode cX5_copyFrom 11 = .ok (.getfield 13, 3) := by decide +kernel
theorem dX5_copyFrom_14 : decode cX5_copyFrom 14 = .ok (.arraylength, 1) := by decide +kernel
theorem dX5_copyFrom_15 : decode cX5_copyFrom 15 = .ok (.aload_n 1, 1) := by decide +kernel
theorem dX5_copyFrom_16 : decode cX5_copyFrom 16 = .ok (.getfield 13, 3) := by decide +kernel
theorem dX5_copyFrom_19 : decode cX5_copyFrom 19 = .ok (.arraylength, 1) := by decide +kernel
theorem dX5_copyFrom_20 : decode cX5_copyFrom 20 = .ok (.invokestatic 19, 3) := by decide +kernel
theorem dX5_copyFrom_23 : decode cX5_copyFrom 23 = .ok (.invokestatic 22, 3) := by decide +kernel
theorem dX5_copyFrom_26 : decode cX5_copyFrom 26 = .ok (.return_, 1) := by decide +kernel
set_option maxRecDepth 20000 in
theorem ggX6_init_X5_init : GoodIn wsX6_init wsX5_init := goodIn_r _ [14, 15, 2, 3, 16, 17, 18, 19, 20, 21, 26] (by decide +kernel) (by decide +kernel)
set_option maxRecDepth 20000 in
theorem gX6_init_X5_init : GoodIn wsX6_init (wsX5_init) := ggX6_init_X5_init
set_option maxRecDepth 20000 in
theorem ggX6_init_X5_fill : GoodIn wsX6_init wsX5_fill := goodIn_r _ [25, 21, 26] (by decide +kernel) (by decide +kernel)
set_option maxRecDepth 20000 in
theorem gX6_init_X5_fill : GoodIn wsX6_init (wsV RX6 32 RX5 yX5_fill wsX5_fill) := goodIn_app (goodIn_of _ (by decide +kernel)) ggX6_init_X5_fill
theorem dX6_init_0 : decode cX6_init 0 = .ok (.aload_n 0, 1) := by decide +kernel
theorem dX6_init_1 : decode cX6_init 1 = .ok (.invokespecial 3, 3) := by decide +kernel
theorem dX6_init_4 : decode cX6_init 4 = .ok (.aload_n 0, 1) := by decide +kernel
theorem dX6_init_5 : decode cX6_init 5 = .ok (.new 9, 3) := by decide +kernel
theorem dX6_init_8 : decode cX6_init 8 = .ok (.dup, 1) := by decide +kernel
theorem dX6_init_9 : decode cX6_init 9 = .ok (.bipush 30, 2) := by decide +kernel
theorem dX6_init_11 : decode cX6_init 11 = .ok (.invokespecial 11, 3) := by decide +kernel
theorem dX6_init_14 : decode cX6_init 14 = .ok (.putfield 14, 3) := by decide +kernel
theorem dX6_init_17 : decode cX6_init 17 = .ok (.aload_n 0, 1) := by decide +kernel
theorem dX6_init_18 : decode cX6_init 18 = .ok (.new 9, 3) := by decide +kernel
theorem dX6_init_21 : decode cX6_init 21 = .ok (.dup, 1) := by decide +kernel
theorem dX6_init_22 : decode cX6_init 22 = .ok (.bipush 30, 2) := by decide +kernel
theorem dX6_init_24 : decode cX6_init 24 = .ok (.invokespecial 11, 3) := by decide +kernel
theorem dX6_init_27 : decode cX6_init 27 = .ok (.putfield 20, 3) := by decide +kernel
theorem dX6_init_30 : decode cX6_init 30 = .ok (.aload_n 0, 1) := by decide +kernel
theorem dX6_init_31 : decode cX6_init 31 = .ok (.new 9, 3) := by decide +kernel
theorem dX6_init_34 : decode cX6_init 34 = .ok (.dup, 1) := by decide +kernel
theorem dX6_init_35 : decode cX6_init 35 = .ok (.bipush 30, 2) := by decide +kernel
theorem dX6_init_37 : decode cX6_init 37 = .ok (.invokespecial 11, 3) := by decide +kernel
theorem dX6_init_40 : decode cX6_init 40 = .ok (.putfield 23, 3) := by decide +kernel
theorem dX6_init_43 : decode cX6_init 43 = .ok (.aload_n 0, 1) := by decide +kernel
theorem dX6_init_44 : decode cX6_init 44 = .ok (.new 9, 3) := by decide +kernel
theorem dX6_init_47 : decode cX6_init 47 = .ok (.dup, 1) := by decide +kernel
theorem dX6_init_48 : decode cX6_init 48 = .ok (.bipush 30, 2) := by decide +kernel
theorem dX6_init_50 : decode cX6_init 50 = .ok (.invokespecial 11, 3) := by decide +kernel
theorem dX6_init_53 : decode cX6_init 53 = .ok (.putfield 26, 3) := by decide +kernel
theorem dX6_init_56 : decode cX6_init 56 = .ok (.aload_n 0, 1) := by decide +kernel
theorem dX6_init_57 : decode cX6_init 57 = .ok (.new 9, 3) := by decide +kernel
theorem dX6_init_60 : decode cX6_init 60 = .ok (.dup, 1) := by decide +kernel
theorem dX6_init_61 : decode cX6_init 61 = .ok (.bipush 30, 2) := by decide +kernel
theorem dX6_init_63 : decode cX6_init 63 = .ok (.invokespecial 11, 3) := by decide +kernel
theorem dX6_init_66 : decode cX6_init 66 = .ok (.putfield 29, 3) := by decide +kernel
theorem dX6_init_69 : decode cX6_init 69 = .ok (.aload_n 0, 1) := by decide +kernel
theorem dX6_init_70 : decode cX6_init 70 = .ok (.getfield 14, 3) := by decide +kernel
theorem dX6_init_73 : decode cX6_init 73 = .ok (.iconst 3, 1) := by decide +kernel
theorem dX6_init_74 : decode cX6_init 74 = .ok (.invokevirtual 32, 3) := by decide +kernel
theorem dX6_init_77 : decode cX6_init 77 = .ok (.return_, 1) := by decide +kernel
set_option maxRecDepth 20000 in
theorem ggX6_copyFrom_X5_copyFrom : GoodIn wsX6_copyFrom wsX5_copyFrom := goodIn_r _ [13, 14, 15, 16, 17, 18, 19, 20, 21, 22, 31] (by decide +kernel) (by decide +kernel)
set_option maxRecDepth 20000 in
theorem gX6_copyFrom_X5_copyFrom : GoodIn wsX6_copyFrom (wsV RX6 35 RX5 yX5_copyFrom wsX5_copyFrom) := goodIn_app (goodIn_of _ (by decide +kernel)) ggX6_copyFrom_X5_copyFrom
theorem dX6_copyFrom_0 : decode cX6_copyFrom 0 = .ok (.aload_n 0, 1) := by decide +kernel
theorem dX6_copyFrom_1 : decode cX6_copyFrom 1 = .ok (.getfield 14, 3) := by decide +kernel
theorem dX6_copyFrom_4 : decode cX6_copyFrom 4 = .ok (.aload_n 1, 1) := by decide +kernel
theorem dX6_copyFrom_5 : decode cX6_copyFrom 5 = .ok (.getfield 14, 3) := by decide +kernel
theorem dX6_copyFrom_8 : decode cX6_copyFrom 8 = .ok (.invokevirtual 35, 3) := by decide +kernel
theorem dX6_copyFrom_11 : decode cX6_copyFrom 11 = .ok (.aload_n 0, 1) := by decide +kernel
theorem dX6_copyFrom_12 : decode cX6_copyFrom 12 = .ok (.getfield 20, 3) := by decide +kernel
theorem dX6_copyFrom_15 : decode cX6_copyFrom 15 = .ok (.aload_n 1, 1) := by decide +kernel
theorem dX6_copyFrom_16 : decode cX6_copyFrom 16 = .ok (.getfield 20, 3) := by decide +kernel
theorem dX6_copyFrom_19 : decode cX6_copyFrom 19 = .ok (.invokevirtual 35, 3) := by decide +kernel
theorem dX6_copyFrom_22 : decode cX6_copyFrom 22 = .ok (.aload_n 0, 1) := by decide +kernel
theorem dX6_copyFrom_23 : decode cX6_copyFrom 23 = .ok (.getfield 23, 3) := by decide +kernel
theorem dX6_copyFrom_26 : decode cX6_copyFrom 26 = .ok (.aload_n 1, 1) := by decide +kernel
theorem dX6_copyFrom_27 : decode cX6_copyFrom 27 = .ok (.getfield 23, 3) := by decide +kernel
theorem dX6_copyFrom_30 : decode cX6_copyFrom 30 = .ok (.invokevirtual 35, 3) := by decide +kernel
theorem dX6_copyFrom_33 : decode cX6_copyFrom 33 = .ok (.aload_n 0, 1) := by decide +kernel
theorem dX6_copyFrom_34 : decode cX6_copyFrom 34 = .ok (.getfield 26, 3) := by decide +kernel
theorem dX6_copyFrom_37 : decode cX6_copyFrom 37 = .ok (.aload_n 1, 1) := by decide +kernel
theorem dX6_copyFrom_38 : decode cX6_copyFrom 38 = .ok (.getfield 26, 3) := by decide +kernel
theorem dX6_copyFrom_41 : decode cX6_copyFrom 41 = .ok (.invokevirtual 35, 3) := by decide +kernel
theorem dX6_copyFrom_44 : decode cX6_copyFrom 44 = .ok (.aload_n 0, 1) := by decide +kernel
theorem dX6_copyFrom_45 : decode cX6_copyFrom 45 = .ok (.getfield 29, 3) := by decide +kernel
theorem dX6_copyFrom_48 : decode cX6_copyFrom 48 = .ok (.aload_n 1, 1) := by decide +kernel
theorem dX6_copyFrom_49 : decode cX6_copyFrom 49 = .ok (.getfield 29, 3) := by decide +kernel
theorem dX6_copyFrom_52 : decode cX6_copyFrom 52 = .ok (.invokevirtual 35, 3) := by decide +kernel
theorem dX6_copyFrom_55 : decode cX6_copyFrom 55 = .ok (.aload_n 0, 1) := by decide +kernel
theorem dX6_copyFrom_56 : decode cX6_copyFrom 56 = .ok (.aload_n 1, 1) := by decide +kernel
theorem dX6_copyFrom_57 : decode cX6_copyFrom 57 = .ok (.getfield 39, 3) := by decide +kernel
theorem dX6_copyFrom_60 : decode cX6_copyFrom 60 = .ok (.putfield 39, 3) := by decide +kernel
theorem dX6_copyFrom_63 : decode cX6_copyFrom 63 = .ok (.aload_n 0, 1) := by decide +kernel
theorem dX6_copyFrom_64 : decode cX6_copyFrom 64 = .ok (.aload_n 1, 1) := by decide +kernel
theorem dX6_copyFrom_65 : decode cX6_copyFrom 65 = .ok (.getfield 43, 3) := by decide +kernel
theorem dX6_copyFrom_68 : decode cX6_copyFrom 68 = .ok (.putfield 43, 3) := by decide +kernel
theorem dX6_copyFrom_71 : decode cX6_copyFrom 71 = .ok (.aload_n 0, 1) := by decide +kernel
theorem dX6_copyFrom_72 : decode cX6_copyFrom 72 = .ok (.aload_n 1, 1) := by decide +kernel
theorem dX6_copyFrom_73 : decode cX6_copyFrom 73 = .ok (.getfield 46, 3) := by decide +kernel
theorem dX6_copyFrom_76 : decode cX6_copyFrom 76 = .ok (.putfield 46, 3) := by decide +kernel
theorem dX6_copyFrom_79 : decode cX6_copyFrom 79 = .ok (.return_, 1) := by decide +kernel
theorem dX6_hasClapped_0 : decode cX6_hasClapped 0 = .ok (.aload_n 0, 1) := by decide +kernel
theorem dX6_hasClapped_1 : decode cX6_hasClapped 1 = .ok (.getfield 46, 3) := by decide +kernel
theorem dX6_hasClapped_4 : decode cX6_hasClapped 4 = .ok (.iload_n 1, 1) := by decide +kernel
theorem dX6_hasClapped_5 : decode cX6_hasClapped 5 = .ok (.ishr, 1) := by decide +kernel
theorem dX6_hasClapped_6 : decode cX6_hasClapped 6 = .ok (.iconst 1, 1) := by decide +kernel
theorem dX6_hasClapped_7 : decode cX6_hasClapped 7 = .ok (.iand, 1) := by decide +kernel
theorem dX6_hasClapped_8 : decode cX6_hasClapped 8 = .ok (.iconst 1, 1) := by decide +kernel
theorem dX6_hasClapped_9 : decode cX6_hasClapped 9 = .ok (.if_icmp .ne 7, 3) := by decide +kernel
theorem dX6_hasClapped_12 : decode cX6_hasClapped 12 = .ok (.iconst 1, 1) := by decide +kernel
theorem dX6_hasClapped_13 : decode cX6_hasClapped 13 = .ok (.goto 4, 3) := by decide +kernel
theorem dX6_hasClapped_16 : decode cX6_hasClapped 16 = .ok (.iconst 0, 1) := by decide +kernel
theorem dX6_hasClapped_17 : decode cX6_hasClapped 17 = .ok (.ireturn, 1) := by decide +kernel
theorem dX6_beginPiece_0 : decode cX6_beginPiece 0 = .ok (.aload_n 0, 1) := by decide +kernel
theorem dX6_beginPiece_1 : decode cX6_beginPiece 1 = .ok (.iconst 0, 1) := by decide +kernel
theorem dX6_beginPiece_2 : decode cX6_beginPiece 2 = .ok (.putfield 46, 3) := by decide +kernel
theorem dX6_beginPiece_5 : decode cX6_beginPiece 5 = .ok (.return_, 1) := by decide +kernel
set_option maxRecDepth 20000 in
theorem ggX6_beginNight_X5_fill : GoodIn wsX6_beginNight wsX5_fill := goodIn_r _ [8, 9, 18] (by decide +kernel) (by decide +kernel)
set_option maxRecDepth 20000 in
theorem gX6_beginNight_X5_fill : GoodIn wsX6_beginNight (wsV RX6 32 RX5 yX5_fill wsX5_fill) := goodIn_app (goodIn_of _ (by decide +kernel)) ggX6_beginNight_X5_fill
theorem dX6_beginNight_0 : decode cX6_beginNight 0 = .ok (.aload_n 0, 1) := by decide +kernel
theorem dX6_beginNight_1 : decode cX6_beginNight 1 = .ok (.iconst 0, 1) := by decide +kernel
theorem dX6_beginNight_2 : decode cX6_beginNight 2 = .ok (.putfield 46, 3) := by decide +kernel
theorem dX6_beginNight_5 : decode cX6_beginNight 5 = .ok (.aload_n 0, 1) := by decide +kernel
theorem dX6_beginNight_6 : decode cX6_beginNight 6 = .ok (.getfield 23, 3) := by decide +kernel
theorem dX6_beginNight_9 : decode cX6_beginNight 9 = .ok (.iconst 0, 1) := by decide +kernel
theorem dX6_beginNight_10 : decode cX6_beginNight 10 = .ok (.invokevirtual 32, 3) := by decide +kernel
theorem dX6_beginNight_13 : decode cX6_beginNight 13 = .ok (.aload_n 0, 1) := by decide +kernel
theorem dX6_beginNight_14 : decode cX6_beginNight 14 = .ok (.iconst 0, 1) := by decide +kernel
theorem dX6_beginNight_15 : decode cX6_beginNight 15 = .ok (.putfield 39, 3) := by decide +kernel
theorem dX6_beginNight_18 : decode cX6_beginNight 18 = .ok (.return_, 1) := by decide +kernel
set_option maxRecDepth 20000 in
theorem ggX6_addClap_X6_hasClapped : GoodIn wsX6_addClap wsX6_hasClapped := goodIn_r _ [11, 5, 26, 27, 28, 29, 30, 31, 32, 33] (by decide +kernel) (by decide +kernel)
set_option maxRecDepth 20000 in
theorem gX6_addClap_X6_hasClapped : GoodIn wsX6_addClap (wsV RX6 49 RX6 yX6_hasClapped wsX6_hasClapped) := goodIn_app (goodIn_of _ (by decide +kernel)) ggX6_addClap_X6_hasClapped
set_option maxRecDepth 20000 in
theorem ggX6_addClap_X5_add : GoodIn wsX6_addClap wsX5_add := goodIn_r _ [16, 17, 34] (by decide +kernel) (by decide +kernel)
set_option maxRecDepth 20000 in
theorem gX6_addClap_X5_add : GoodIn wsX6_addClap (wsV RX6 53 RX5 yX5_add wsX5_add) := goodIn_app (goodIn_of _ (by decide +kernel)) ggX6_addClap_X5_add
set_option maxRecDepth 20000 in
theorem ggX6_addClap_X5_at : GoodIn wsX6_addClap wsX5_at := goodIn_r _ [21, 17, 34] (by decide +kernel) (by decide +kernel)
set_option maxRecDepth 20000 in
theorem gX6_addClap_X5_at : GoodIn wsX6_addClap (wsV RX6 57 RX5 yX5_at wsX5_at) := goodIn_app (goodIn_of _ (by decide +kernel)) ggX6_addClap_X5_at
set_option maxRecDepth 20000 in
theorem ggX6_addClap_X5_store : GoodIn wsX6_addClap wsX5_store := goodIn_r _ [25, 17, 34] (by decide +kernel) (by decide +kernel)
set_option maxRecDepth 20000 in
theorem gX6_addClap_X5_store : GoodIn wsX6_addClap (wsV RX6 61 RX5 yX5_store wsX5_store) := goodIn_app (goodIn_of _ (by decide +kernel)) ggX6_addClap_X5_store
theorem dX6_addClap_0 : decode cX6_addClap 0 = .ok (.iload_n 2, 1) := by decide +kernel
theorem dX6_addClap_1 : decode cX6_addClap 1 = .ok (.ifCond .eq 20, 3) := by decide +kernel
theorem dX6_addClap_4 : decode cX6_addClap 4 = .ok (.aload_n 0, 1) := by decide +kernel
theorem dX6_addClap_5 : decode cX6_addClap 5 = .ok (.iload_n 1, 1) := by decide +kernel
theorem dX6_addClap_6 : decode cX6_addClap 6 = .ok (.invokevirtual 49, 3) := by decide +kernel
theorem dX6_addClap_9 : decode cX6_addClap 9 = .ok (.ifCond .ne 12, 3) := by decide +kernel
theorem dX6_addClap_12 : decode cX6_addClap 12 = .ok (.aload_n 0, 1) := by decide +kernel
theorem dX6_addClap_13 : decode cX6_addClap 13 = .ok (.getfield 20, 3) := by decide +kernel
theorem dX6_addClap_16 : decode cX6_addClap 16 = .ok (.iload_n 1, 1) := by decide +kernel
theorem dX6_addClap_17 : decode cX6_addClap 17 = .ok (.iconst 1, 1) := by decide +kernel
theorem dX6_addClap_18 : decode cX6_addClap 18 = .ok (.invokevirtual 53, 3) := by decide +kernel
theorem dX6_addClap_21 : decode cX6_addClap 21 = .ok (.aload_n 0, 1) := by decide +kernel
theorem dX6_addClap_22 : decode cX6_addClap 22 = .ok (.getfield 23, 3) := by decide +kernel
theorem dX6_addClap_25 : decode cX6_addClap 25 = .ok (.iload_n 1, 1) := by decide +kernel
theorem dX6_addClap_26 : decode cX6_addClap 26 = .ok (.invokevirtual 57, 3) := by decide +kernel
theorem dX6_addClap_29 : decode cX6_addClap 29 = .ok (.ifCond .ne 25, 3) := by decide +kernel
theorem dX6_addClap_32 : decode cX6_addClap 32 = .ok (.aload_n 0, 1) := by decide +kernel
theorem dX6_addClap_33 : decode cX6_addClap 33 = .ok (.getfield 29, 3) := by decide +kernel
theorem dX6_addClap_36 : decode cX6_addClap 36 = .ok (.aload_n 0, 1) := by decide +kernel
theorem dX6_addClap_37 : decode cX6_addClap 37 = .ok (.getfield 39, 3) := by decide +kernel
theorem dX6_addClap_40 : decode cX6_addClap 40 = .ok (.iload_n 1, 1) := by decide +kernel
theorem dX6_addClap_41 : decode cX6_addClap 41 = .ok (.invokevirtual 61, 3) := by decide +kernel
theorem dX6_addClap_44 : decode cX6_addClap 44 = .ok (.aload_n 0, 1) := by decide +kernel
theorem dX6_addClap_45 : decode cX6_addClap 45 = .ok (.dup, 1) := by decide +kernel
theorem dX6_addClap_46 : decode cX6_addClap 46 = .ok (.getfield 39, 3) := by decide +kernel
theorem dX6_addClap_49 : decode cX6_addClap 49 = .ok (.iconst 1, 1) := by decide +kernel
theorem dX6_addClap_50 : decode cX6_addClap 50 = .ok (.iadd, 1) := by decide +kernel
theorem dX6_addClap_51 : decode cX6_addClap 51 = .ok (.putfield 39, 3) := by decide +kernel
theorem dX6_addClap_54 : decode cX6_addClap 54 = .ok (.aload_n 0, 1) := by decide +kernel
theorem dX6_addClap_55 : decode cX6_addClap 55 = .ok (.dup, 1) := by decide +kernel
theorem dX6_addClap_56 : decode cX6_addClap 56 = .ok (.getfield 46, 3) := by decide +kernel
theorem dX6_addClap_59 : decode cX6_addClap 59 = .ok (.iconst 1, 1) := by decide +kernel
theorem dX6_addClap_60 : decode cX6_addClap 60 = .ok (.iload_n 1, 1) := by decide +kernel
theorem dX6_addClap_61 : decode cX6_addClap 61 = .ok (.ishl, 1) := by decide +kernel
theorem dX6_addClap_62 : decode cX6_addClap 62 = .ok (.ior, 1) := by decide +kernel
theorem dX6_addClap_63 : decode cX6_addClap 63 = .ok (.putfield 46, 3) := by decide +kernel
theorem dX6_addClap_66 : decode cX6_addClap 66 = .ok (.aload_n 0, 1) := by decide +kernel
theorem dX6_addClap_67 : decode cX6_addClap 67 = .ok (.getfield 23, 3) := by decide +kernel
theorem dX6_addClap_70 : decode cX6_addClap 70 = .ok (.iload_n 1, 1) := by decide +kernel
theorem dX6_addClap_71 : decode cX6_addClap 71 = .ok (.iconst 1, 1) := by decide +kernel
theorem dX6_addClap_72 : decode cX6_addClap 72 = .ok (.invokevirtual 53, 3) := by decide +kernel
theorem dX6_addClap_75 : decode cX6_addClap 75 = .ok (.aload_n 0, 1) := by decide +kernel
theorem dX6_addClap_76 : decode cX6_addClap 76 = .ok (.getfield 26, 3) := by decide +kernel
theorem dX6_addClap_79 : decode cX6_addClap 79 = .ok (.iload_n 1, 1) := by decide +kernel
theorem dX6_addClap_80 : decode cX6_addClap 80 = .ok (.iconst 1, 1) := by decide +kernel
theorem dX6_addClap_81 : decode cX6_addClap 81 = .ok (.invokevirtual 53, 3) := by decide +kernel
theorem dX6_addClap_84 : decode cX6_addClap 84 = .ok (.return_, 1) := by decide +kernel
set_option maxRecDepth 20000 in
theorem ggX6_suspected_X5_at : GoodIn wsX6_suspected wsX5_at := goodIn_r _ [6, 7, 16] (by decide +kernel) (by decide +kernel)
set_option maxRecDepth 20000 in
theorem gX6_suspected_X5_at : GoodIn wsX6_suspected (wsV RX6 57 RX5 yX5_at wsX5_at) := goodIn_app (goodIn_of _ (by decide +kernel)) ggX6_suspected_X5_at
theorem dX6_suspected_0 : decode cX6_suspected 0 = .ok (.iconst 0, 1) := by decide +kernel
theorem dX6_suspected_1 : decode cX6_suspected 1 = .ok (.istore_n 2, 1) := by decide +kernel
theorem dX6_suspected_2 : decode cX6_suspected 2 = .ok (.iconst 0, 1) := by decide +kernel
theorem dX6_suspected_3 : decode cX6_suspected 3 = .ok (.istore_n 3, 1) := by decide +kernel
theorem dX6_suspected_4 : decode cX6_suspected 4 = .ok (.iload_n 3, 1) := by decide +kernel
theorem dX6_suspected_5 : decode cX6_suspected 5 = .ok (.bipush 30, 2) := by decide +kernel
theorem dX6_suspected_7 : decode cX6_suspected 7 = .ok (.if_icmp .ge 27, 3) := by decide +kernel
theorem dX6_suspected_10 : decode cX6_suspected 10 = .ok (.aload_n 0, 1) := by decide +kernel
theorem dX6_suspected_11 : decode cX6_suspected 11 = .ok (.getfield 20, 3) := by decide +kernel
theorem dX6_suspected_14 : decode cX6_suspected 14 = .ok (.iload_n 3, 1) := by decide +kernel
theorem dX6_suspected_15 : decode cX6_suspected 15 = .ok (.invokevirtual 57, 3) := by decide +kernel
theorem dX6_suspected_18 : decode cX6_suspected 18 = .ok (.iload_n 1, 1) := by decide +kernel
theorem dX6_suspected_19 : decode cX6_suspected 19 = .ok (.if_icmp .lt 9, 3) := by decide +kernel
theorem dX6_suspected_22 : decode cX6_suspected 22 = .ok (.iload_n 2, 1) := by decide +kernel
theorem dX6_suspected_23 : decode cX6_suspected 23 = .ok (.iconst 1, 1) := by decide +kernel
theorem dX6_suspected_24 : decode cX6_suspected 24 = .ok (.iload_n 3, 1) := by decide +kernel
theorem dX6_suspected_25 : decode cX6_suspected 25 = .ok (.ishl, 1) := by decide +kernel
theorem dX6_suspected_26 : decode cX6_suspected 26 = .ok (.ior, 1) := by decide +kernel
theorem dX6_suspected_27 : decode cX6_suspected 27 = .ok (.istore_n 2, 1) := by decide +kernel
theorem dX6_suspected_28 : decode cX6_suspected 28 = .ok (.iinc 3 1, 3) := by decide +kernel
theorem dX6_suspected_31 : decode cX6_suspected 31 = .ok (.goto (-27), 3) := by decide +kernel
theorem dX6_suspected_34 : decode cX6_suspected 34 = .ok (.iload_n 2, 1) := by decide +kernel
theorem dX6_suspected_35 : decode cX6_suspected 35 = .ok (.ireturn, 1) := by decide +kernel
set_option maxRecDepth 20000 in
theorem ggX6_clapperAt_X5_at : GoodIn wsX6_clapperAt wsX5_at := goodIn_r _ [7, 8, 17] (by decide +kernel) (by decide +kernel)
set_option maxRecDepth 20000 in
theorem gX6_clapperAt_X5_at : GoodIn wsX6_clapperAt (wsV RX6 57 RX5 yX5_at wsX5_at) := goodIn_app (goodIn_of _ (by decide +kernel)) ggX6_clapperAt_X5_at
theorem dX6_clapperAt_0 : decode cX6_clapperAt 0 = .ok (.iload_n 1, 1) := by decide +kernel
theorem dX6_clapperAt_1 : decode cX6_clapperAt 1 = .ok (.ifCond .lt 22, 3) := by decide +kernel
theorem dX6_clapperAt_4 : decode cX6_clapperAt 4 = .ok (.iload_n 1, 1) := by decide +kernel
theorem dX6_clapperAt_5 : decode cX6_clapperAt 5 = .ok (.aload_n 0, 1) := by decide +kernel
theorem dX6_clapperAt_6 : decode cX6_clapperAt 6 = .ok (.getfield 39, 3) := by decide +kernel
theorem dX6_clapperAt_9 : decode cX6_clapperAt 9 = .ok (.if_icmp .ge 14, 3) := by decide +kernel
theorem dX6_clapperAt_12 : decode cX6_clapperAt 12 = .ok (.aload_n 0, 1) := by decide +kernel
theorem dX6_clapperAt_13 : decode cX6_clapperAt 13 = .ok (.getfield 29, 3) := by decide +kernel
theorem dX6_clapperAt_16 : decode cX6_clapperAt 16 = .ok (.iload_n 1, 1) := by decide +kernel
theorem dX6_clapperAt_17 : decode cX6_clapperAt 17 = .ok (.invokevirtual 57, 3) := by decide +kernel
theorem dX6_clapperAt_20 : decode cX6_clapperAt 20 = .ok (.goto 4, 3) := by decide +kernel
theorem dX6_clapperAt_23 : decode cX6_clapperAt 23 = .ok (.iconst (-1), 1) := by decide +kernel
theorem dX6_clapperAt_24 : decode cX6_clapperAt 24 = .ok (.ireturn, 1) := by decide +kernel
set_option maxRecDepth 20000 in
theorem ggX7_init_X2_init : GoodIn wsX7_init wsX2_init := goodIn_r _ [23, 24, 2, 3, 25, 26, 27, 28, 29, 30, 31, 32, 33, 34, 35, 36, 37, 38, 39, 40, 41, 42, 43, 44, 45, 46, 47, 48, 49, 50, 51, 52, 53, 54, 55, 56, 57, 58, 59, 60, 61, 62, 63, 64, 65, 66, 67, 68, 69, 70, 71, 72, 73, 74, 75, 76, 77, 78, 121, 95, 96, 97, 98, 99, 100, 101, 102, 103, 104, 105, 122, 123, 124, 125, 126, 127, 128, 129, 130, 131, 132, 133, 134, 135] (by decide +kernel) (by decide +kernel)
set_option maxRecDepth 20000 in
theorem gX7_init_X2_init : GoodIn wsX7_init (wsX2_init) := ggX7_init_X2_init
set_option maxRecDepth 20000 in
theorem ggX7_init_X1_init : GoodIn wsX7_init wsX1_init := goodIn_r _ [81, 82, 2, 3, 83, 84, 5, 6, 85, 22, 23, 24, 25, 26, 27, 28, 29, 30, 31, 32, 33, 34, 35, 36, 37, 38, 39, 40, 41, 42, 43, 44, 45, 46, 47, 48, 49, 50, 51, 52, 53, 54, 55, 56, 57, 58, 59, 60, 61, 62, 63, 64, 65, 66, 67, 68, 69, 70, 71, 72, 73, 74, 75, 76, 77, 78, 111, 112, 113, 95, 96, 97, 98, 99, 100, 101, 102, 103, 104, 105, 121, 122, 123, 124, 125, 126, 127, 128, 129, 130, 131, 132, 133, 134, 135] (by decide +kernel) (by decide +kernel)
set_option maxRecDepth 20000 in
theorem gX7_init_X1_init : GoodIn wsX7_init (wsX1_init) := ggX7_init_X1_init
set_option maxRecDepth 20000 in
theorem ggX7_init_X4_init : GoodIn wsX7_init wsX4_init := goodIn_r _ [87, 88, 2, 3, 48, 89, 114, 115] (by decide +kernel) (by decide +kernel)
set_option maxRecDepth 20000 in
theorem gX7_init_X4_init_n29 : GoodIn wsX7_init (wsX4_init) := ggX7_init_X4_init
set_option maxRecDepth 20000 in
theorem ggX7_init_X3_init : GoodIn wsX7_init wsX3_init := goodIn_r _ [92, 93, 2, 3, 94, 116, 117, 118, 119, 120] (by decide +kernel) (by decide +kernel)
set_option maxRecDepth 20000 in
theorem gX7_init_X3_init : GoodIn wsX7_init (wsX3_init) := ggX7_init_X3_init
theorem dX7_init_0 : decode cX7_init 0 = .ok (.aload_n 0, 1) := by decide +kernel
theorem dX7_init_1 : decode cX7_init 1 = .ok (.invokespecial 1, 3) := by decide +kernel
theorem dX7_init_4 : decode cX7_init 4 = .ok (.aload_n 0, 1) := by decide +kernel
theorem dX7_init_5 : decode cX7_init 5 = .ok (.new 7, 3) := by decide +kernel
theorem dX7_init_8 : decode cX7_init 8 = .ok (.dup, 1) := by decide +kernel
theorem dX7_init_9 : decode cX7_init 9 = .ok (.invokespecial 9, 3) := by decide +kernel
theorem dX7_init_12 : decode cX7_init 12 = .ok (.putfield 10, 3) := by decide +kernel
theorem dX7_init_15 : decode cX7_init 15 = .ok (.aload_n 0, 1) := by decide +kernel
theorem dX7_init_16 : decode cX7_init 16 = .ok (.new 16, 3) := by decide +kernel
theorem dX7_init_19 : decode cX7_init 19 = .ok (.dup, 1) := by decide +kernel
theorem dX7_init_20 : decode cX7_init 20 = .ok (.invokespecial 18, 3) := by decide +kernel
theorem dX7_init_23 : decode cX7_init 23 = .ok (.putfield 19, 3) := by decide +kernel
theorem dX7_init_26 : decode cX7_init 26 = .ok (.aload_n 0, 1) := by decide +kernel
theorem dX7_init_27 : decode cX7_init 27 = .ok (.iconst 2, 1) := by decide +kernel
theorem dX7_init_28 : decode cX7_init 28 = .ok (.anewarray 7, 3) := by decide +kernel
theorem dX7_init_31 : decode cX7_init 31 = .ok (.putfield 23, 3) := by decide +kernel
theorem dX7_init_34 : decode cX7_init 34 = .ok (.aload_n 0, 1) := by decide +kernel
theorem dX7_init_35 : decode cX7_init 35 = .ok (.new 27, 3) := by decide +kernel
theorem dX7_init_38 : decode cX7_init 38 = .ok (.dup, 1) := by decide +kernel
theorem dX7_init_39 : decode cX7_init 39 = .ok (.invokespecial 29, 3) := by decide +kernel
theorem dX7_init_42 : decode cX7_init 42 = .ok (.putfield 30, 3) := by decide +kernel
theorem dX7_init_45 : decode cX7_init 45 = .ok (.aload_n 0, 1) := by decide +kernel
theorem dX7_init_46 : decode cX7_init 46 = .ok (.new 34, 3) := by decide +kernel
theorem dX7_init_49 : decode cX7_init 49 = .ok (.dup, 1) := by decide +kernel
theorem dX7_init_50 : decode cX7_init 50 = .ok (.aload_n 0, 1) := by decide +kernel
theorem dX7_init_51 : decode cX7_init 51 = .ok (.getfield 30, 3) := by decide +kernel
theorem dX7_init_54 : decode cX7_init 54 = .ok (.invokespecial 36, 3) := by decide +kernel
theorem dX7_init_57 : decode cX7_init 57 = .ok (.putfield 39, 3) := by decide +kernel
theorem dX7_init_60 : decode cX7_init 60 = .ok (.return_, 1) := by decide +kernel
set_option maxRecDepth 20000 in
theorem ggX7_set_X1_setAside : GoodIn wsX7_set wsX1_setAside := goodIn_r _ [7, 8, 9, 10, 11, 6, 12, 13, 14, 15, 16, 17, 18, 19, 20, 21, 22, 23, 24, 25, 26, 27, 28, 29, 30, 31, 32, 33, 34, 35, 36, 37, 38, 39, 40, 41, 42, 43, 44, 45, 46, 47, 48, 49, 50, 51, 52, 53, 54, 55, 56, 57, 58, 59, 60, 61, 62, 63, 64, 65, 66, 67, 68, 69, 93, 94, 95, 96, 97, 98, 99, 100, 101, 102, 103, 104, 105, 106, 107, 108, 109, 110, 111, 112, 113, 114, 115, 116, 117, 118, 119, 120, 121] (by decide +kernel) (by decide +kernel)
set_option maxRecDepth 20000 in
theorem gX7_set_X1_setAside : GoodIn wsX7_set (wsV RX7 43 RX1 yX1_setAside wsX1_setAside) := goodIn_app (goodIn_of _ (by decide +kernel)) ggX7_set_X1_setAside
set_option maxRecDepth 20000 in
theorem ggX7_set_X2_changeSetting : GoodIn wsX7_set wsX2_changeSetting := goodIn_r _ [73, 19, 74, 75, 76, 33, 77, 35, 78, 79, 80, 81, 96, 97, 98, 99, 100, 101, 102, 103, 104, 105, 106, 107] (by decide +kernel) (by decide +kernel)
set_option maxRecDepth 20000 in
theorem gX7_set_X2_changeSetting : GoodIn wsX7_set (wsV RX7 47 RX2 yX2_changeSetting wsX2_changeSetting) := goodIn_app (goodIn_of _ (by decide +kernel)) ggX7_set_X2_changeSetting
set_option maxRecDepth 20000 in
theorem ggX7_set_X1_keepUnlessError : GoodIn wsX7_set wsX1_keepUnlessError := goodIn_r _ [85, 8, 86, 87, 37, 38, 39, 93, 94, 95] (by decide +kernel) (by decide +kernel)
set_option maxRecDepth 20000 in
theorem gX7_set_X1_keepUnlessError : GoodIn wsX7_set (wsV RX7 51 RX1 yX1_keepUnlessError wsX1_keepUnlessError) := goodIn_app (goodIn_of _ (by decide +kernel)) ggX7_set_X1_keepUnlessError
theorem dX7_set_0 : decode cX7_set 0 = .ok (.aload_n 0, 1) := by decide +kernel
theorem dX7_set_1 : decode cX7_set 1 = .ok (.getfield 19, 3) := by decide +kernel
theorem dX7_set_4 : decode cX7_set 4 = .ok (.aload_n 0, 1) := by decide +kernel
theorem dX7_set_5 : decode cX7_set 5 = .ok (.getfield 10, 3) := by decide +kernel
theorem dX7_set_8 : decode cX7_set 8 = .ok (.invokevirtual 43, 3) := by decide +kernel
theorem dX7_set_11 : decode cX7_set 11 = .ok (.aload_n 0, 1) := by decide +kernel
theorem dX7_set_12 : decode cX7_set 12 = .ok (.getfield 19, 3) := by decide +kernel
theorem dX7_set_15 : decode cX7_set 15 = .ok (.aload_n 0, 1) := by decide +kernel
theorem dX7_set_16 : decode cX7_set 16 = .ok (.getfield 10, 3) := by decide +kernel
theorem dX7_set_19 : decode cX7_set 19 = .ok (.iload_n 1, 1) := by decide +kernel
theorem dX7_set_20 : decode cX7_set 20 = .ok (.iload_n 2, 1) := by decide +kernel
theorem dX7_set_21 : decode cX7_set 21 = .ok (.invokevirtual 47, 3) := by decide +kernel
theorem dX7_set_24 : decode cX7_set 24 = .ok (.invokevirtual 51, 3) := by decide +kernel
theorem dX7_set_27 : decode cX7_set 27 = .ok (.ireturn, 1) := by decide +kernel
set_option maxRecDepth 20000 in
theorem ggX7_loud_X1_setAside : GoodIn wsX7_loud wsX1_setAside := goodIn_r _ [7, 8, 9, 10, 11, 6, 12, 13, 14, 15, 16, 17, 18, 19, 20, 21, 22, 23, 24, 25, 26, 27, 28, 29, 30, 31, 32, 33, 34, 35, 36, 37, 38, 39, 40, 41, 42, 43, 44, 45, 46, 47, 48, 49, 50, 51, 52, 53, 54, 55, 56, 57, 58, 59, 60, 61, 62, 63, 64, 65, 66, 67, 68, 69, 96, 97, 98, 99, 100, 101, 102, 103, 104, 105, 106, 107, 108, 109, 110, 111, 112, 113, 114, 115, 116, 117, 118, 119, 120, 121, 122, 123, 124] (by decide +kernel) (by decide +kernel)
set_option maxRecDepth 20000 in
theorem gX7_loud_X1_setAside : GoodIn wsX7_loud (wsV RX7 43 RX1 yX1_setAside wsX1_setAside) := goodIn_app (goodIn_of _ (by decide +kernel)) ggX7_loud_X1_setAside
set_option maxRecDepth 20000 in
theorem ggX7_loud_X2_changeLoudness : GoodIn wsX7_loud wsX2_changeLoudness := goodIn_r _ [73, 20, 74, 75, 76, 77, 78, 79, 33, 80, 35, 81, 82, 83, 84, 99, 100, 101, 102, 103, 104, 105, 106, 107, 108, 109, 111, 112, 113, 114, 115, 116, 117, 118, 110] (by decide +kernel) (by decide +kernel)
set_option maxRecDepth 20000 in
theorem gX7_loud_X2_changeLoudness : GoodIn wsX7_loud (wsV RX7 55 RX2 yX2_changeLoudness wsX2_changeLoudness) := goodIn_app (goodIn_of _ (by decide +kernel)) ggX7_loud_X2_changeLoudness
set_option maxRecDepth 20000 in
theorem ggX7_loud_X1_keepUnlessError : GoodIn wsX7_loud wsX1_keepUnlessError := goodIn_r _ [88, 8, 89, 90, 37, 38, 39, 96, 97, 98] (by decide +kernel) (by decide +kernel)
set_option maxRecDepth 20000 in
theorem gX7_loud_X1_keepUnlessError : GoodIn wsX7_loud (wsV RX7 51 RX1 yX1_keepUnlessError wsX1_keepUnlessError) := goodIn_app (goodIn_of _ (by decide +kernel)) ggX7_loud_X1_keepUnlessError
theorem dX7_loud_0 : decode cX7_loud 0 = .ok (.aload_n 0, 1) := by decide +kernel
theorem dX7_loud_1 : decode cX7_loud 1 = .ok (.getfield 19, 3) := by decide +kernel
theorem dX7_loud_4 : decode cX7_loud 4 = .ok (.aload_n 0, 1) := by decide +kernel
theorem dX7_loud_5 : decode cX7_loud 5 = .ok (.getfield 10, 3) := by decide +kernel
theorem dX7_loud_8 : decode cX7_loud 8 = .ok (.invokevirtual 43, 3) := by decide +kernel
theorem dX7_loud_11 : decode cX7_loud 11 = .ok (.aload_n 0, 1) := by decide +kernel
theorem dX7_loud_12 : decode cX7_loud 12 = .ok (.getfield 19, 3) := by decide +kernel
theorem dX7_loud_15 : decode cX7_loud 15 = .ok (.aload_n 0, 1) := by decide +kernel
theorem dX7_loud_16 : decode cX7_loud 16 = .ok (.getfield 10, 3) := by decide +kernel
theorem dX7_loud_19 : decode cX7_loud 19 = .ok (.iload_n 1, 1) := by decide +kernel
theorem dX7_loud_20 : decode cX7_loud 20 = .ok (.iload_n 2, 1) := by decide +kernel
theorem dX7_loud_21 : decode cX7_loud 21 = .ok (.invokevirtual 55, 3) := by decide +kernel
theorem dX7_loud_24 : decode cX7_loud 24 = .ok (.invokevirtual 51, 3) := by decide +kernel
theorem dX7_loud_27 : decode cX7_loud 27 = .ok (.ireturn, 1) := by decide +kernel
set_option maxRecDepth 20000 in
theorem ggX7_pay_X1_setAside : GoodIn wsX7_pay wsX1_setAside := goodIn_r _ [7, 8, 9, 10, 11, 6, 12, 13, 14, 15, 16, 17, 18, 19, 20, 21, 22, 23, 24, 25, 26, 27, 28, 29, 30, 31, 32, 33, 34, 35, 36, 37, 38, 39, 40, 41, 42, 43, 44, 45, 46, 47, 48, 49, 50, 51, 52, 53, 54, 55, 56, 57, 58, 59, 60, 61, 62, 63, 64, 65, 66, 67, 68, 69, 88, 89, 90, 91, 92, 93, 94, 95, 96, 97, 98, 99, 100, 101, 102, 103, 104, 105, 106, 107, 108, 109, 110, 111, 112, 113, 114, 115, 116] (by decide +kernel) (by decide +kernel)
set_option maxRecDepth 20000 in
theorem gX7_pay_X1_setAside : GoodIn wsX7_pay (wsV RX7 43 RX1 yX1_setAside wsX1_setAside) := goodIn_app (goodIn_of _ (by decide +kernel)) ggX7_pay_X1_setAside
set_option maxRecDepth 20000 in
theorem ggX7_pay_X2_switchPay : GoodIn wsX7_pay wsX2_switchPay := goodIn_r _ [73, 20, 74, 75, 76, 91, 92, 93, 94, 95, 96, 97, 98, 99, 100, 101, 103, 104, 105, 106, 107, 108, 109, 110] (by decide +kernel) (by decide +kernel)
set_option maxRecDepth 20000 in
theorem gX7_pay_X2_switchPay : GoodIn wsX7_pay (wsV RX7 58 RX2 yX2_switchPay wsX2_switchPay) := goodIn_app (goodIn_of _ (by decide +kernel)) ggX7_pay_X2_switchPay
set_option maxRecDepth 20000 in
theorem ggX7_pay_X1_keepUnlessError : GoodIn wsX7_pay wsX1_keepUnlessError := goodIn_r _ [80, 8, 81, 82, 37, 38, 39, 88, 89, 90] (by decide +kernel) (by decide +kernel)
set_option maxRecDepth 20000 in
theorem gX7_pay_X1_keepUnlessError : GoodIn wsX7_pay (wsV RX7 51 RX1 yX1_keepUnlessError wsX1_keepUnlessError) := goodIn_app (goodIn_of _ (by decide +kernel)) ggX7_pay_X1_keepUnlessError
theorem dX7_pay_0 : decode cX7_pay 0 = .ok (.aload_n 0, 1) := by decide +kernel
theorem dX7_pay_1 : decode cX7_pay 1 = .ok (.getfield 19, 3) := by decide +kernel
theorem dX7_pay_4 : decode cX7_pay 4 = .ok (.aload_n 0, 1) := by decide +kernel
theorem dX7_pay_5 : decode cX7_pay 5 = .ok (.getfield 10, 3) := by decide +kernel
theorem dX7_pay_8 : decode cX7_pay 8 = .ok (.invokevirtual 43, 3) := by decide +kernel
theorem dX7_pay_11 : decode cX7_pay 11 = .ok (.aload_n 0, 1) := by decide +kernel
theorem dX7_pay_12 : decode cX7_pay 12 = .ok (.getfield 19, 3) := by decide +kernel
theorem dX7_pay_15 : decode cX7_pay 15 = .ok (.aload_n 0, 1) := by decide +kernel
theorem dX7_pay_16 : decode cX7_pay 16 = .ok (.getfield 10, 3) := by decide +kernel
theorem dX7_pay_19 : decode cX7_pay 19 = .ok (.iload_n 1, 1) := by decide +kernel
theorem dX7_pay_20 : decode cX7_pay 20 = .ok (.invokevirtual 58, 3) := by decide +kernel
theorem dX7_pay_23 : decode cX7_pay 23 = .ok (.invokevirtual 51, 3) := by decide +kernel
theorem dX7_pay_26 : decode cX7_pay 26 = .ok (.ireturn, 1) := by decide +kernel
set_option maxRecDepth 20000 in
theorem ggX7_ends_X1_setAside : GoodIn wsX7_ends wsX1_setAside := goodIn_r _ [7, 8, 9, 10, 11, 6, 12, 13, 14, 15, 16, 17, 18, 19, 20, 21, 22, 23, 24, 25, 26, 27, 28, 29, 30, 31, 32, 33, 34, 35, 36, 37, 38, 39, 40, 41, 42, 43, 44, 45, 46, 47, 48, 49, 50, 51, 52, 53, 54, 55, 56, 57, 58, 59, 60, 61, 62, 63, 64, 65, 66, 67, 68, 69, 100, 101, 102, 103, 104, 105, 106, 107, 108, 109, 110, 111, 112, 113, 114, 115, 116, 117, 118, 119, 120, 121, 122, 123, 124, 125, 126, 127, 128] (by decide +kernel) (by decide +kernel)
set_option maxRecDepth 20000 in
theorem gX7_ends_X1_setAside : GoodIn wsX7_ends (wsV RX7 43 RX1 yX1_setAside wsX1_setAside) := goodIn_app (goodIn_of _ (by decide +kernel)) ggX7_ends_X1_setAside
set_option maxRecDepth 20000 in
theorem ggX7_ends_X2_endPiece : GoodIn wsX7_ends wsX2_endPiece := goodIn_r _ [73, 24, 74, 75, 76, 77, 78, 79, 17, 80, 21, 20, 27, 25, 28, 29, 81, 82, 83, 33, 84, 35, 85, 86, 87, 47, 88, 56, 103, 104, 105, 106, 107, 108, 109, 110, 111, 112, 113, 123, 124, 125, 126, 127, 128, 114, 115, 116, 117, 118, 119, 120, 121, 122] (by decide +kernel) (by decide +kernel)
set_option maxRecDepth 20000 in
theorem gX7_ends_X2_endPiece : GoodIn wsX7_ends (wsV RX7 61 RX2 yX2_endPiece wsX2_endPiece) := goodIn_app (goodIn_of _ (by decide +kernel)) ggX7_ends_X2_endPiece
set_option maxRecDepth 20000 in
theorem ggX7_ends_X1_keepUnlessError : GoodIn wsX7_ends wsX1_keepUnlessError := goodIn_r _ [92, 8, 93, 94, 37, 38, 39, 100, 101, 102] (by decide +kernel) (by decide +kernel)
set_option maxRecDepth 20000 in
theorem gX7_ends_X1_keepUnlessError : GoodIn wsX7_ends (wsV RX7 51 RX1 yX1_keepUnlessError wsX1_keepUnlessError) := goodIn_app (goodIn_of _ (by decide +kernel)) ggX7_ends_X1_keepUnlessError
theorem dX7_ends_0 : decode cX7_ends 0 = .ok (.aload_n 0, 1) := by decide +kernel
theorem dX7_ends_1 : decode cX7_ends 1 = .ok (.getfield 19, 3) := by decide +kernel
theorem dX7_ends_4 : decode cX7_ends 4 = .ok (.aload_n 0, 1) := by decide +kernel
theorem dX7_ends_5 : decode cX7_ends 5 = .ok (.getfield 10, 3) := by decide +kernel
theorem dX7_ends_8 : decode cX7_ends 8 = .ok (.invokevirtual 43, 3) := by decide +kernel
theorem dX7_ends_11 : decode cX7_ends 11 = .ok (.aload_n 0, 1) := by decide +kernel
theorem dX7_ends_12 : decode cX7_ends 12 = .ok (.getfield 19, 3) := by decide +kernel
theorem dX7_ends_15 : decode cX7_ends 15 = .ok (.aload_n 0, 1) := by decide +kernel
theorem dX7_ends_16 : decode cX7_ends 16 = .ok (.getfield 10, 3) := by decide +kernel
theorem dX7_ends_19 : decode cX7_ends 19 = .ok (.iload_n 1, 1) := by decide +kernel
theorem dX7_ends_20 : decode cX7_ends 20 = .ok (.invokevirtual 61, 3) := by decide +kernel
theorem dX7_ends_23 : decode cX7_ends 23 = .ok (.invokevirtual 51, 3) := by decide +kernel
theorem dX7_ends_26 : decode cX7_ends 26 = .ok (.ireturn, 1) := by decide +kernel
set_option maxRecDepth 20000 in
theorem ggX7_clap_X1_setAside : GoodIn wsX7_clap wsX1_setAside := goodIn_r _ [7, 8, 9, 10, 11, 6, 12, 13, 14, 15, 16, 17, 18, 19, 20, 21, 22, 23, 24, 25, 26, 27, 28, 29, 30, 31, 32, 33, 34, 35, 36, 37, 38, 39, 40, 41, 42, 43, 44, 45, 46, 47, 48, 49, 50, 51, 52, 53, 54, 55, 56, 57, 58, 59, 60, 61, 62, 63, 64, 65, 66, 67, 68, 69, 121, 122, 123, 124, 125, 126, 127, 128, 129, 130, 131, 132, 133, 134, 135, 136, 137, 138, 139, 140, 141, 142, 143, 144, 145, 146, 147, 148, 149] (by decide +kernel) (by decide +kernel)
set_option maxRecDepth 20000 in
theorem gX7_clap_X1_setAside : GoodIn wsX7_clap (wsV RX7 43 RX1 yX1_setAside wsX1_setAside) := goodIn_app (goodIn_of _ (by decide +kernel)) ggX7_clap_X1_setAside
set_option maxRecDepth 20000 in
theorem ggX7_clap_X2_takeClap : GoodIn wsX7_clap wsX2_takeClap := goodIn_r _ [73, 27, 20, 25, 28, 19, 22, 24, 74, 37, 38, 39, 29, 75, 76, 77, 78, 79, 80, 33, 81, 35, 82, 83, 84, 47, 85, 50, 51, 53, 54, 56, 52, 86, 87, 88, 89, 90, 91, 92, 93, 94, 95, 96, 97, 98, 99, 100, 101, 102, 17, 103, 21, 104, 105, 106, 61, 107, 68, 66, 63, 64, 108, 109, 124, 125, 126, 127, 128, 129, 130, 131, 132, 133, 134, 136, 137, 138, 139, 140, 141, 142, 143, 135, 144, 145, 146, 147, 148, 149] (by decide +kernel) (by decide +kernel)
set_option maxRecDepth 20000 in
theorem gX7_clap_X2_takeClap : GoodIn wsX7_clap (wsV RX7 64 RX2 yX2_takeClap wsX2_takeClap) := goodIn_app (goodIn_of _ (by decide +kernel)) ggX7_clap_X2_takeClap
set_option maxRecDepth 20000 in
theorem ggX7_clap_X1_keepUnlessError : GoodIn wsX7_clap wsX1_keepUnlessError := goodIn_r _ [113, 8, 114, 115, 37, 38, 39, 121, 122, 123] (by decide +kernel) (by decide +kernel)
set_option maxRecDepth 20000 in
theorem gX7_clap_X1_keepUnlessError : GoodIn wsX7_clap (wsV RX7 51 RX1 yX1_keepUnlessError wsX1_keepUnlessError) := goodIn_app (goodIn_of _ (by decide +kernel)) ggX7_clap_X1_keepUnlessError
theorem dX7_clap_0 : decode cX7_clap 0 = .ok (.aload_n 0, 1) := by decide +kernel
theorem dX7_clap_1 : decode cX7_clap 1 = .ok (.getfield 19, 3) := by decide +kernel
theorem dX7_clap_4 : decode cX7_clap 4 = .ok (.aload_n 0, 1) := by decide +kernel
theorem dX7_clap_5 : decode cX7_clap 5 = .ok (.getfield 10, 3) := by decide +kernel
theorem dX7_clap_8 : decode cX7_clap 8 = .ok (.invokevirtual 43, 3) := by decide +kernel
theorem dX7_clap_11 : decode cX7_clap 11 = .ok (.aload_n 0, 1) := by decide +kernel
theorem dX7_clap_12 : decode cX7_clap 12 = .ok (.getfield 19, 3) := by decide +kernel
theorem dX7_clap_15 : decode cX7_clap 15 = .ok (.aload_n 0, 1) := by decide +kernel
theorem dX7_clap_16 : decode cX7_clap 16 = .ok (.getfield 10, 3) := by decide +kernel
theorem dX7_clap_19 : decode cX7_clap 19 = .ok (.iload_n 1, 1) := by decide +kernel
theorem dX7_clap_20 : decode cX7_clap 20 = .ok (.invokevirtual 64, 3) := by decide +kernel
theorem dX7_clap_23 : decode cX7_clap 23 = .ok (.invokevirtual 51, 3) := by decide +kernel
theorem dX7_clap_26 : decode cX7_clap 26 = .ok (.ireturn, 1) := by decide +kernel
set_option maxRecDepth 20000 in
theorem ggX7_pass_X1_setAside : GoodIn wsX7_pass wsX1_setAside := goodIn_r _ [7, 8, 9, 10, 11, 6, 12, 13, 14, 15, 16, 17, 18, 19, 20, 21, 22, 23, 24, 25, 26, 27, 28, 29, 30, 31, 32, 33, 34, 35, 36, 37, 38, 39, 40, 41, 42, 43, 44, 45, 46, 47, 48, 49, 50, 51, 52, 53, 54, 55, 56, 57, 58, 59, 60, 61, 62, 63, 64, 65, 66, 67, 68, 69, 110, 111, 112, 113, 114, 115, 116, 117, 118, 119, 120, 121, 122, 123, 124, 125, 126, 127, 128, 129, 130, 131, 132, 133, 134, 135, 136, 137, 138] (by decide +kernel) (by decide +kernel)
set_option maxRecDepth 20000 in
theorem gX7_pass_X1_setAside : GoodIn wsX7_pass (wsV RX7 43 RX1 yX1_setAside wsX1_setAside) := goodIn_app (goodIn_of _ (by decide +kernel)) ggX7_pass_X1_setAside
set_option maxRecDepth 20000 in
theorem ggX7_pass_X2_letPass : GoodIn wsX7_pass wsX2_letPass := goodIn_r _ [73, 25, 74, 24, 19, 22, 21, 75, 76, 77, 33, 78, 35, 79, 80, 81, 82, 83, 38, 84, 85, 86, 87, 61, 88, 68, 64, 66, 63, 89, 90, 91, 92, 93, 94, 95, 96, 97, 98, 113, 114, 115, 116, 117, 118, 119, 120, 121, 122, 123, 124, 133, 134, 135, 136, 137, 138] (by decide +kernel) (by decide +kernel)
set_option maxRecDepth 20000 in
theorem gX7_pass_X2_letPass : GoodIn wsX7_pass (wsV RX7 67 RX2 yX2_letPass wsX2_letPass) := goodIn_app (goodIn_of _ (by decide +kernel)) ggX7_pass_X2_letPass
set_option maxRecDepth 20000 in
theorem ggX7_pass_X1_keepUnlessError : GoodIn wsX7_pass wsX1_keepUnlessError := goodIn_r _ [102, 8, 103, 104, 37, 38, 39, 110, 111, 112] (by decide +kernel) (by decide +kernel)
set_option maxRecDepth 20000 in
theorem gX7_pass_X1_keepUnlessError : GoodIn wsX7_pass (wsV RX7 51 RX1 yX1_keepUnlessError wsX1_keepUnlessError) := goodIn_app (goodIn_of _ (by decide +kernel)) ggX7_pass_X1_keepUnlessError
theorem dX7_pass_0 : decode cX7_pass 0 = .ok (.aload_n 0, 1) := by decide +kernel
theorem dX7_pass_1 : decode cX7_pass 1 = .ok (.getfield 19, 3) := by decide +kernel
theorem dX7_pass_4 : decode cX7_pass 4 = .ok (.aload_n 0, 1) := by decide +kernel
theorem dX7_pass_5 : decode cX7_pass 5 = .ok (.getfield 10, 3) := by decide +kernel
theorem dX7_pass_8 : decode cX7_pass 8 = .ok (.invokevirtual 43, 3) := by decide +kernel
theorem dX7_pass_11 : decode cX7_pass 11 = .ok (.aload_n 0, 1) := by decide +kernel
theorem dX7_pass_12 : decode cX7_pass 12 = .ok (.getfield 19, 3) := by decide +kernel
theorem dX7_pass_15 : decode cX7_pass 15 = .ok (.aload_n 0, 1) := by decide +kernel
theorem dX7_pass_16 : decode cX7_pass 16 = .ok (.getfield 10, 3) := by decide +kernel
theorem dX7_pass_19 : decode cX7_pass 19 = .ok (.iload_n 1, 1) := by decide +kernel
theorem dX7_pass_20 : decode cX7_pass 20 = .ok (.invokevirtual 67, 3) := by decide +kernel
theorem dX7_pass_23 : decode cX7_pass 23 = .ok (.invokevirtual 51, 3) := by decide +kernel
theorem dX7_pass_26 : decode cX7_pass 26 = .ok (.ireturn, 1) := by decide +kernel
set_option maxRecDepth 20000 in
theorem ggX7_play_X1_setAside : GoodIn wsX7_play wsX1_setAside := goodIn_r _ [7, 8, 9, 10, 11, 6, 12, 13, 14, 15, 16, 17, 18, 19, 20, 21, 22, 23, 24, 25, 26, 27, 28, 29, 30, 31, 32, 33, 34, 35, 36, 37, 38, 39, 40, 41, 42, 43, 44, 45, 46, 47, 48, 49, 50, 51, 52, 53, 54, 55, 56, 57, 58, 59, 60, 61, 62, 63, 64, 65, 66, 67, 68, 69, 121, 122, 123, 124, 125, 126, 127, 128, 129, 130, 131, 132, 133, 134, 135, 136, 137, 138, 139, 140, 141, 142, 143, 144, 145, 146, 147, 148, 149] (by decide +kernel) (by decide +kernel)
set_option maxRecDepth 20000 in
theorem gX7_play_X1_setAside : GoodIn wsX7_play (wsV RX7 43 RX1 yX1_setAside wsX1_setAside) := goodIn_app (goodIn_of _ (by decide +kernel)) ggX7_play_X1_setAside
set_option maxRecDepth 20000 in
theorem ggX7_play_X2_playEncore : GoodIn wsX7_play wsX2_playEncore := goodIn_r _ [73, 21, 22, 74, 75, 76, 77, 78, 79, 61, 80, 68, 63, 64, 65, 81, 82, 83, 84, 85, 86, 87, 33, 88, 35, 89, 90, 91, 92, 93, 94, 95, 96, 97, 98, 99, 100, 17, 101, 20, 24, 27, 25, 28, 29, 102, 103, 104, 47, 105, 56, 106, 107, 108, 109, 124, 125, 126, 127, 128, 129, 130, 131, 132, 133, 134, 144, 145, 146, 147, 148, 149, 135, 136, 137, 138, 139, 140, 141, 142, 143] (by decide +kernel) (by decide +kernel)
set_option maxRecDepth 20000 in
theorem gX7_play_X2_playEncore : GoodIn wsX7_play (wsV RX7 70 RX2 yX2_playEncore wsX2_playEncore) := goodIn_app (goodIn_of _ (by decide +kernel)) ggX7_play_X2_playEncore
set_option maxRecDepth 20000 in
theorem ggX7_play_X1_keepUnlessError : GoodIn wsX7_play wsX1_keepUnlessError := goodIn_r _ [113, 8, 114, 115, 37, 38, 39, 121, 122, 123] (by decide +kernel) (by decide +kernel)
set_option maxRecDepth 20000 in
theorem gX7_play_X1_keepUnlessError : GoodIn wsX7_play (wsV RX7 51 RX1 yX1_keepUnlessError wsX1_keepUnlessError) := goodIn_app (goodIn_of _ (by decide +kernel)) ggX7_play_X1_keepUnlessError
theorem dX7_play_0 : decode cX7_play 0 = .ok (.aload_n 0, 1) := by decide +kernel
theorem dX7_play_1 : decode cX7_play 1 = .ok (.getfield 19, 3) := by decide +kernel
theorem dX7_play_4 : decode cX7_play 4 = .ok (.aload_n 0, 1) := by decide +kernel
theorem dX7_play_5 : decode cX7_play 5 = .ok (.getfield 10, 3) := by decide +kernel
theorem dX7_play_8 : decode cX7_play 8 = .ok (.invokevirtual 43, 3) := by decide +kernel
theorem dX7_play_11 : decode cX7_play 11 = .ok (.aload_n 0, 1) := by decide +kernel
theorem dX7_play_12 : decode cX7_play 12 = .ok (.getfield 19, 3) := by decide +kernel
theorem dX7_play_15 : decode cX7_play 15 = .ok (.aload_n 0, 1) := by decide +kernel
theorem dX7_play_16 : decode cX7_play 16 = .ok (.getfield 10, 3) := by decide +kernel
theorem dX7_play_19 : decode cX7_play 19 = .ok (.iload_n 1, 1) := by decide +kernel
theorem dX7_play_20 : decode cX7_play 20 = .ok (.invokevirtual 70, 3) := by decide +kernel
theorem dX7_play_23 : decode cX7_play 23 = .ok (.invokevirtual 51, 3) := by decide +kernel
theorem dX7_play_26 : decode cX7_play 26 = .ok (.ireturn, 1) := by decide +kernel
set_option maxRecDepth 20000 in
theorem ggX7_call_X1_setAside : GoodIn wsX7_call wsX1_setAside := goodIn_r _ [7, 8, 9, 10, 11, 6, 12, 13, 14, 15, 16, 17, 18, 19, 20, 21, 22, 23, 24, 25, 26, 27, 28, 29, 30, 31, 32, 33, 34, 35, 36, 37, 38, 39, 40, 41, 42, 43, 44, 45, 46, 47, 48, 49, 50, 51, 52, 53, 54, 55, 56, 57, 58, 59, 60, 61, 62, 63, 64, 65, 66, 67, 68, 69, 93, 94, 95, 96, 97, 98, 99, 100, 101, 102, 103, 104, 105, 106, 107, 108, 109, 110, 111, 112, 113, 114, 115, 116, 117, 118, 119, 120, 121] (by decide +kernel) (by decide +kernel)
set_option maxRecDepth 20000 in
theorem gX7_call_X1_setAside : GoodIn wsX7_call (wsV RX7 43 RX1 yX1_setAside wsX1_setAside) := goodIn_app (goodIn_of _ (by decide +kernel)) ggX7_call_X1_setAside
set_option maxRecDepth 20000 in
theorem ggX7_call_X2_takeCurtain : GoodIn wsX7_call wsX2_takeCurtain := goodIn_r _ [73, 24, 19, 22, 74, 75, 76, 33, 77, 35, 78, 79, 80, 81, 96, 97, 98, 99, 100, 101, 102, 103, 104, 105, 106, 107] (by decide +kernel) (by decide +kernel)
set_option maxRecDepth 20000 in
theorem gX7_call_X2_takeCurtain : GoodIn wsX7_call (wsV RX7 73 RX2 yX2_takeCurtain wsX2_takeCurtain) := goodIn_app (goodIn_of _ (by decide +kernel)) ggX7_call_X2_takeCurtain
set_option maxRecDepth 20000 in
theorem ggX7_call_X1_keepUnlessError : GoodIn wsX7_call wsX1_keepUnlessError := goodIn_r _ [85, 8, 86, 87, 37, 38, 39, 93, 94, 95] (by decide +kernel) (by decide +kernel)
set_option maxRecDepth 20000 in
theorem gX7_call_X1_keepUnlessError : GoodIn wsX7_call (wsV RX7 51 RX1 yX1_keepUnlessError wsX1_keepUnlessError) := goodIn_app (goodIn_of _ (by decide +kernel)) ggX7_call_X1_keepUnlessError
theorem dX7_call_0 : decode cX7_call 0 = .ok (.aload_n 0, 1) := by decide +kernel
theorem dX7_call_1 : decode cX7_call 1 = .ok (.getfield 19, 3) := by decide +kernel
theorem dX7_call_4 : decode cX7_call 4 = .ok (.aload_n 0, 1) := by decide +kernel
theorem dX7_call_5 : decode cX7_call 5 = .ok (.getfield 10, 3) := by decide +kernel
theorem dX7_call_8 : decode cX7_call 8 = .ok (.invokevirtual 43, 3) := by decide +kernel
theorem dX7_call_11 : decode cX7_call 11 = .ok (.aload_n 0, 1) := by decide +kernel
theorem dX7_call_12 : decode cX7_call 12 = .ok (.getfield 19, 3) := by decide +kernel
theorem dX7_call_15 : decode cX7_call 15 = .ok (.aload_n 0, 1) := by decide +kernel
theorem dX7_call_16 : decode cX7_call 16 = .ok (.getfield 10, 3) := by decide +kernel
theorem dX7_call_19 : decode cX7_call 19 = .ok (.invokevirtual 73, 3) := by decide +kernel
theorem dX7_call_22 : decode cX7_call 22 = .ok (.invokevirtual 51, 3) := by decide +kernel
theorem dX7_call_25 : decode cX7_call 25 = .ok (.ireturn, 1) := by decide +kernel
set_option maxRecDepth 20000 in
theorem ggX7_night_X1_setAside : GoodIn wsX7_night wsX1_setAside := goodIn_r _ [7, 8, 9, 10, 11, 6, 12, 13, 14, 15, 16, 17, 18, 19, 20, 21, 22, 23, 24, 25, 26, 27, 28, 29, 30, 31, 32, 33, 34, 35, 36, 37, 38, 39, 40, 41, 42, 43, 44, 45, 46, 47, 48, 49, 50, 51, 52, 53, 54, 55, 56, 57, 58, 59, 60, 61, 62, 63, 64, 65, 66, 67, 68, 69, 116, 117, 118, 119, 120, 121, 122, 123, 124, 125, 126, 127, 128, 129, 130, 131, 132, 133, 134, 135, 136, 137, 138, 139, 140, 141, 142, 143, 144] (by decide +kernel) (by decide +kernel)
set_option maxRecDepth 20000 in
theorem gX7_night_X1_setAside : GoodIn wsX7_night (wsV RX7 43 RX1 yX1_setAside wsX1_setAside) := goodIn_app (goodIn_of _ (by decide +kernel)) ggX7_night_X1_setAside
set_option maxRecDepth 20000 in
theorem ggX7_night_X2_endNight : GoodIn wsX7_night wsX2_endNight := goodIn_r _ [73, 26, 21, 25, 22, 23, 20, 24, 27, 74, 75, 76, 61, 77, 68, 64, 66, 63, 78, 79, 80, 33, 81, 35, 82, 83, 84, 85, 86, 87, 88, 89, 90, 91, 92, 17, 93, 94, 95, 96, 97, 98, 99, 100, 101, 102, 47, 103, 56, 51, 54, 104, 119, 120, 121, 122, 123, 124, 125, 126, 127, 128, 129, 139, 140, 141, 142, 143, 144, 130, 131, 132, 133, 134, 135, 136, 137, 138] (by decide +kernel) (by decide +kernel)
set_option maxRecDepth 20000 in
theorem gX7_night_X2_endNight : GoodIn wsX7_night (wsV RX7 77 RX2 yX2_endNight wsX2_endNight) := goodIn_app (goodIn_of _ (by decide +kernel)) ggX7_night_X2_endNight
set_option maxRecDepth 20000 in
theorem ggX7_night_X1_keepUnlessError : GoodIn wsX7_night wsX1_keepUnlessError := goodIn_r _ [108, 8, 109, 110, 37, 38, 39, 116, 117, 118] (by decide +kernel) (by decide +kernel)
set_option maxRecDepth 20000 in
theorem gX7_night_X1_keepUnlessError : GoodIn wsX7_night (wsV RX7 51 RX1 yX1_keepUnlessError wsX1_keepUnlessError) := goodIn_app (goodIn_of _ (by decide +kernel)) ggX7_night_X1_keepUnlessError
theorem dX7_night_0 : decode cX7_night 0 = .ok (.aload_n 0, 1) := by decide +kernel
theorem dX7_night_1 : decode cX7_night 1 = .ok (.getfield 19, 3) := by decide +kernel
theorem dX7_night_4 : decode cX7_night 4 = .ok (.aload_n 0, 1) := by decide +kernel
theorem dX7_night_5 : decode cX7_night 5 = .ok (.getfield 10, 3) := by decide +kernel
theorem dX7_night_8 : decode cX7_night 8 = .ok (.invokevirtual 43, 3) := by decide +kernel
theorem dX7_night_11 : decode cX7_night 11 = .ok (.aload_n 0, 1) := by decide +kernel
theorem dX7_night_12 : decode cX7_night 12 = .ok (.getfield 19, 3) := by decide +kernel
theorem dX7_night_15 : decode cX7_night 15 = .ok (.aload_n 0, 1) := by decide +kernel
theorem dX7_night_16 : decode cX7_night 16 = .ok (.getfield 10, 3) := by decide +kernel
theorem dX7_night_19 : decode cX7_night 19 = .ok (.invokevirtual 77, 3) := by decide +kernel
theorem dX7_night_22 : decode cX7_night 22 = .ok (.invokevirtual 51, 3) := by decide +kernel
theorem dX7_night_25 : decode cX7_night 25 = .ok (.ireturn, 1) := by decide +kernel
set_option maxRecDepth 20000 in
theorem ggX7_write_X4_clear : GoodIn wsX7_write wsX4_clear := goodIn_r _ [7, 8, 49, 50] (by decide +kernel) (by decide +kernel)
set_option maxRecDepth 20000 in
theorem gX7_write_X4_clear : GoodIn wsX7_write (wsV RX7 80 RX4 yX4_clear wsX4_clear) := goodIn_app (goodIn_of _ (by decide +kernel)) ggX7_write_X4_clear
set_option maxRecDepth 20000 in
theorem ggX7_write_X2_writeBill : GoodIn wsX7_write wsX2_writeBill := goodIn_r _ [13, 14, 15, 16, 17, 18, 19, 20, 21, 22, 23, 24, 6, 25, 26, 27, 28, 29, 30, 8, 31, 32, 33, 34, 35, 36, 37, 38, 39, 51, 52, 53, 54, 55, 56, 57, 58, 59, 60, 61, 62, 49, 50, 63, 64, 65, 66, 67, 68] (by decide +kernel) (by decide +kernel)
set_option maxRecDepth 20000 in
theorem gX7_write_X2_writeBill : GoodIn wsX7_write (wsV RX7 83 RX2 yX2_writeBill wsX2_writeBill) := goodIn_app (goodIn_of _ (by decide +kernel)) ggX7_write_X2_writeBill
set_option maxRecDepth 20000 in
theorem ggX7_write_X4_length : GoodIn wsX7_write wsX4_length := goodIn_r _ [43, 8, 49, 50] (by decide +kernel) (by decide +kernel)
set_option maxRecDepth 20000 in
theorem gX7_write_X4_length : GoodIn wsX7_write (wsV RX7 86 RX4 yX4_length wsX4_length) := goodIn_app (goodIn_of _ (by decide +kernel)) ggX7_write_X4_length
theorem dX7_write_0 : decode cX7_write 0 = .ok (.aload_n 0, 1) := by decide +kernel
theorem dX7_write_1 : decode cX7_write 1 = .ok (.getfield 30, 3) := by decide +kernel
theorem dX7_write_4 : decode cX7_write 4 = .ok (.invokevirtual 80, 3) := by decide +kernel
theorem dX7_write_7 : decode cX7_write 7 = .ok (.aload_n 0, 1) := by decide +kernel
theorem dX7_write_8 : decode cX7_write 8 = .ok (.getfield 10, 3) := by decide +kernel
theorem dX7_write_11 : decode cX7_write 11 = .ok (.aload_n 0, 1) := by decide +kernel
theorem dX7_write_12 : decode cX7_write 12 = .ok (.getfield 30, 3) := by decide +kernel
theorem dX7_write_15 : decode cX7_write 15 = .ok (.invokevirtual 83, 3) := by decide +kernel
theorem dX7_write_18 : decode cX7_write 18 = .ok (.aload_n 0, 1) := by decide +kernel
theorem dX7_write_19 : decode cX7_write 19 = .ok (.getfield 30, 3) := by decide +kernel
theorem dX7_write_22 : decode cX7_write 22 = .ok (.invokevirtual 86, 3) := by decide +kernel
theorem dX7_write_25 : decode cX7_write 25 = .ok (.ireturn, 1) := by decide +kernel
set_option maxRecDepth 20000 in
theorem ggX7_of_X2_aboutSeat : GoodIn wsX7_of wsX2_aboutSeat := goodIn_r _ [6, 7, 8, 9, 10, 11, 12, 13, 14, 15, 16, 17, 18, 19, 20, 21, 22, 23, 29, 30, 31, 32, 33, 34, 35, 36, 37, 38, 39, 40, 41, 42, 43, 44, 45, 46, 47, 48] (by decide +kernel) (by decide +kernel)
set_option maxRecDepth 20000 in
theorem gX7_of_X2_aboutSeat : GoodIn wsX7_of (wsV RX7 89 RX2 yX2_aboutSeat wsX2_aboutSeat) := goodIn_app (goodIn_of _ (by decide +kernel)) ggX7_of_X2_aboutSeat
theorem dX7_of_0 : decode cX7_of 0 = .ok (.aload_n 0, 1) := by decide +kernel
theorem dX7_of_1 : decode cX7_of 1 = .ok (.getfield 10, 3) := by decide +kernel
theorem dX7_of_4 : decode cX7_of 4 = .ok (.iload_n 1, 1) := by decide +kernel
theorem dX7_of_5 : decode cX7_of 5 = .ok (.iload_n 2, 1) := by decide +kernel
theorem dX7_of_6 : decode cX7_of 6 = .ok (.invokevirtual 89, 3) := by decide +kernel
theorem dX7_of_9 : decode cX7_of 9 = .ok (.ireturn, 1) := by decide +kernel
set_option maxRecDepth 20000 in
theorem ggX7_performer_X0_aboutPerformer : GoodIn wsX7_performer wsX0_aboutPerformer := goodIn_r _ [6, 7, 8, 9, 10, 11, 12, 13, 14, 15, 5, 16, 17, 18, 19, 20, 21, 22, 23, 24, 41, 42, 43, 44, 45, 46, 47] (by decide +kernel) (by decide +kernel)
set_option maxRecDepth 20000 in
theorem gX7_performer_X0_aboutPerformer : GoodIn wsX7_performer (wsV RX7 96 RX0 yX0_aboutPerformer wsX0_aboutPerformer) := goodIn_app (goodIn_of _ (by decide +kernel)) ggX7_performer_X0_aboutPerformer
theorem dX7_performer_0 : decode cX7_performer 0 = .ok (.aload_n 0, 1) := by decide +kernel
theorem dX7_performer_1 : decode cX7_performer 1 = .ok (.getfield 10, 3) := by decide +kernel
theorem dX7_performer_4 : decode cX7_performer 4 = .ok (.getfield 92, 3) := by decide +kernel
theorem dX7_performer_7 : decode cX7_performer 7 = .ok (.iload_n 1, 1) := by decide +kernel
theorem dX7_performer_8 : decode cX7_performer 8 = .ok (.iload_n 2, 1) := by decide +kernel
theorem dX7_performer_9 : decode cX7_performer 9 = .ok (.invokevirtual 96, 3) := by decide +kernel
theorem dX7_performer_12 : decode cX7_performer 12 = .ok (.ireturn, 1) := by decide +kernel
set_option maxRecDepth 20000 in
theorem ggX7_owed_X0_aboutOwed : GoodIn wsX7_owed wsX0_aboutOwed := goodIn_r _ [6, 7, 8, 9, 10, 11, 12, 13, 14, 15, 32, 33, 34, 35, 36, 37, 38] (by decide +kernel) (by decide +kernel)
set_option maxRecDepth 20000 in
theorem gX7_owed_X0_aboutOwed : GoodIn wsX7_owed (wsV RX7 105 RX0 yX0_aboutOwed wsX0_aboutOwed) := goodIn_app (goodIn_of _ (by decide +kernel)) ggX7_owed_X0_aboutOwed
theorem dX7_owed_0 : decode cX7_owed 0 = .ok (.aload_n 0, 1) := by decide +kernel
theorem dX7_owed_1 : decode cX7_owed 1 = .ok (.getfield 10, 3) := by decide +kernel
theorem dX7_owed_4 : decode cX7_owed 4 = .ok (.getfield 92, 3) := by decide +kernel
theorem dX7_owed_7 : decode cX7_owed 7 = .ok (.iload_n 1, 1) := by decide +kernel
theorem dX7_owed_8 : decode cX7_owed 8 = .ok (.iload_n 2, 1) := by decide +kernel
theorem dX7_owed_9 : decode cX7_owed 9 = .ok (.aload_n 0, 1) := by decide +kernel
theorem dX7_owed_10 : decode cX7_owed 10 = .ok (.getfield 10, 3) := by decide +kernel
theorem dX7_owed_13 : decode cX7_owed 13 = .ok (.getfield 101, 3) := by decide +kernel
theorem dX7_owed_16 : decode cX7_owed 16 = .ok (.invokevirtual 105, 3) := by decide +kernel
theorem dX7_owed_19 : decode cX7_owed 19 = .ok (.ireturn, 1) := by decide +kernel
set_option maxRecDepth 20000 in
theorem ggX7_clapper_X6_clapperAt : GoodIn wsX7_clapper wsX6_clapperAt := goodIn_r _ [6, 7, 8, 9, 10, 11, 12, 13, 14, 31, 32, 33, 34, 35, 36, 37, 38, 39] (by decide +kernel) (by decide +kernel)
set_option maxRecDepth 20000 in
theorem gX7_clapper_X6_clapperAt : GoodIn wsX7_clapper (wsV RX7 113 RX6 yX6_clapperAt wsX6_clapperAt) := goodIn_app (goodIn_of _ (by decide +kernel)) ggX7_clapper_X6_clapperAt
theorem dX7_clapper_0 : decode cX7_clapper 0 = .ok (.aload_n 0, 1) := by decide +kernel
theorem dX7_clapper_1 : decode cX7_clapper 1 = .ok (.getfield 10, 3) := by decide +kernel
theorem dX7_clapper_4 : decode cX7_clapper 4 = .ok (.getfield 109, 3) := by decide +kernel
theorem dX7_clapper_7 : decode cX7_clapper 7 = .ok (.iload_n 1, 1) := by decide +kernel
theorem dX7_clapper_8 : decode cX7_clapper 8 = .ok (.invokevirtual 113, 3) := by decide +kernel
theorem dX7_clapper_11 : decode cX7_clapper 11 = .ok (.ireturn, 1) := by decide +kernel
set_option maxRecDepth 20000 in
theorem ggX7_record_X2_recordOf : GoodIn wsX7_record wsX2_recordOf := goodIn_r _ [6, 7, 8, 9, 10, 11, 12, 13, 14, 5, 15, 16, 17, 18, 19, 20, 21, 27, 28, 29, 30, 31, 32, 33, 34, 35, 36, 37, 38] (by decide +kernel) (by decide +kernel)
set_option maxRecDepth 20000 in
theorem gX7_record_X2_recordOf : GoodIn wsX7_record (wsV RX7 118 RX2 yX2_recordOf wsX2_recordOf) := goodIn_app (goodIn_of _ (by decide +kernel)) ggX7_record_X2_recordOf
theorem dX7_record_0 : decode cX7_record 0 = .ok (.aload_n 0, 1) := by decide +kernel
theorem dX7_record_1 : decode cX7_record 1 = .ok (.getfield 10, 3) := by decide +kernel
theorem dX7_record_4 : decode cX7_record 4 = .ok (.iload_n 1, 1) := by decide +kernel
theorem dX7_record_5 : decode cX7_record 5 = .ok (.iload_n 2, 1) := by decide +kernel
theorem dX7_record_6 : decode cX7_record 6 = .ok (.invokevirtual 118, 3) := by decide +kernel
theorem dX7_record_9 : decode cX7_record 9 = .ok (.ireturn, 1) := by decide +kernel
set_option maxRecDepth 20000 in
theorem ggX7_sign_X4_has : GoodIn wsX7_sign wsX4_has := goodIn_r _ [6, 7, 18, 19] (by decide +kernel) (by decide +kernel)
set_option maxRecDepth 20000 in
theorem gX7_sign_X4_has : GoodIn wsX7_sign (wsV RX7 121 RX4 yX4_has wsX4_has) := goodIn_app (goodIn_of _ (by decide +kernel)) ggX7_sign_X4_has
set_option maxRecDepth 20000 in
theorem ggX7_sign_X4_codeAt : GoodIn wsX7_sign wsX4_codeAt := goodIn_r _ [11, 7, 12, 18, 19] (by decide +kernel) (by decide +kernel)
set_option maxRecDepth 20000 in
theorem gX7_sign_X4_codeAt : GoodIn wsX7_sign (wsV RX7 125 RX4 yX4_codeAt wsX4_codeAt) := goodIn_app (goodIn_of _ (by decide +kernel)) ggX7_sign_X4_codeAt
theorem dX7_sign_0 : decode cX7_sign 0 = .ok (.aload_n 0, 1) := by decide +kernel
theorem dX7_sign_1 : decode cX7_sign 1 = .ok (.getfield 30, 3) := by decide +kernel
theorem dX7_sign_4 : decode cX7_sign 4 = .ok (.iload_n 1, 1) := by decide +kernel
theorem dX7_sign_5 : decode cX7_sign 5 = .ok (.invokevirtual 121, 3) := by decide +kernel
theorem dX7_sign_8 : decode cX7_sign 8 = .ok (.ifCond .eq 14, 3) := by decide +kernel
theorem dX7_sign_11 : decode cX7_sign 11 = .ok (.aload_n 0, 1) := by decide +kernel
theorem dX7_sign_12 : decode cX7_sign 12 = .ok (.getfield 30, 3) := by decide +kernel
theorem dX7_sign_15 : decode cX7_sign 15 = .ok (.iload_n 1, 1) := by decide +kernel
theorem dX7_sign_16 : decode cX7_sign 16 = .ok (.invokevirtual 125, 3) := by decide +kernel
theorem dX7_sign_19 : decode cX7_sign 19 = .ok (.goto 4, 3) := by decide +kernel
theorem dX7_sign_22 : decode cX7_sign 22 = .ok (.iconst (-1), 1) := by decide +kernel
theorem dX7_sign_23 : decode cX7_sign 23 = .ok (.ireturn, 1) := by decide +kernel
set_option maxRecDepth 20000 in
theorem ggX7_count_X4_length : GoodIn wsX7_count wsX4_length := goodIn_r _ [8, 9, 56, 57] (by decide +kernel) (by decide +kernel)
set_option maxRecDepth 20000 in
theorem gX7_count_X4_length : GoodIn wsX7_count (wsV RX7 86 RX4 yX4_length wsX4_length) := goodIn_app (goodIn_of _ (by decide +kernel)) ggX7_count_X4_length
set_option maxRecDepth 20000 in
theorem ggX7_count_X1_kept : GoodIn wsX7_count wsX1_kept := goodIn_r _ [14, 15, 58, 59, 60] (by decide +kernel) (by decide +kernel)
set_option maxRecDepth 20000 in
theorem gX7_count_X1_kept : GoodIn wsX7_count (wsV RX7 128 RX1 yX1_kept wsX1_kept) := goodIn_app (goodIn_of _ (by decide +kernel)) ggX7_count_X1_kept
set_option maxRecDepth 20000 in
theorem ggX7_count_X2_numberOf : GoodIn wsX7_count wsX2_numberOf := goodIn_r _ [20, 21, 22, 23, 24, 25, 26, 27, 28, 29, 30, 31, 32, 33, 34, 35, 36, 37, 38, 39, 40, 41, 42, 19, 43, 44, 45, 46, 47, 48, 49, 50, 61, 62, 63, 64, 65, 66, 67, 68, 69, 70, 71, 72, 73, 74, 75, 76, 77, 78, 79, 80, 81, 82, 83, 84, 85, 86] (by decide +kernel) (by decide +kernel)
set_option maxRecDepth 20000 in
theorem gX7_count_X2_numberOf : GoodIn wsX7_count (wsV RX7 131 RX2 yX2_numberOf wsX2_numberOf) := goodIn_app (goodIn_of _ (by decide +kernel)) ggX7_count_X2_numberOf
theorem dX7_count_0 : decode cX7_count 0 = .ok (.iload_n 1, 1) := by decide +kernel
theorem dX7_count_1 : decode cX7_count 1 = .ok (.lookupswitch 43 #[(19, 27), (20, 35)], 27) := by decide +kernel
theorem dX7_count_28 : decode cX7_count 28 = .ok (.aload_n 0, 1) := by decide +kernel
theorem dX7_count_29 : decode cX7_count 29 = .ok (.getfield 30, 3) := by decide +kernel
theorem dX7_count_32 : decode cX7_count 32 = .ok (.invokevirtual 86, 3) := by decide +kernel
theorem dX7_count_35 : decode cX7_count 35 = .ok (.ireturn, 1) := by decide +kernel
theorem dX7_count_36 : decode cX7_count 36 = .ok (.aload_n 0, 1) := by decide +kernel
theorem dX7_count_37 : decode cX7_count 37 = .ok (.getfield 19, 3) := by decide +kernel
theorem dX7_count_40 : decode cX7_count 40 = .ok (.invokevirtual 128, 3) := by decide +kernel
theorem dX7_count_43 : decode cX7_count 43 = .ok (.ireturn, 1) := by decide +kernel
theorem dX7_count_44 : decode cX7_count 44 = .ok (.aload_n 0, 1) := by decide +kernel
theorem dX7_count_45 : decode cX7_count 45 = .ok (.getfield 10, 3) := by decide +kernel
theorem dX7_count_48 : decode cX7_count 48 = .ok (.iload_n 1, 1) := by decide +kernel
theorem dX7_count_49 : decode cX7_count 49 = .ok (.invokevirtual 131, 3) := by decide +kernel
theorem dX7_count_52 : decode cX7_count 52 = .ok (.ireturn, 1) := by decide +kernel
set_option maxRecDepth 20000 in
theorem ggX7_quietIn_X2_secondsUntil : GoodIn wsX7_quietIn wsX2_secondsUntil := goodIn_r _ [6, 7, 8, 9, 10, 11, 12, 13, 14, 15, 16, 17, 18, 19, 20, 21, 27, 28, 29, 30, 31, 32, 33, 34, 35, 36, 37, 38] (by decide +kernel) (by decide +kernel)
set_option maxRecDepth 20000 in
theorem gX7_quietIn_X2_secondsUntil : GoodIn wsX7_quietIn (wsV RX7 134 RX2 yX2_secondsUntil wsX2_secondsUntil) := goodIn_app (goodIn_of _ (by decide +kernel)) ggX7_quietIn_X2_secondsUntil
theorem dX7_quietIn_0 : decode cX7_quietIn 0 = .ok (.aload_n 0, 1) := by decide +kernel
theorem dX7_quietIn_1 : decode cX7_quietIn 1 = .ok (.getfield 10, 3) := by decide +kernel
theorem dX7_quietIn_4 : decode cX7_quietIn 4 = .ok (.iload_n 1, 1) := by decide +kernel
theorem dX7_quietIn_5 : decode cX7_quietIn 5 = .ok (.invokevirtual 134, 3) := by decide +kernel
theorem dX7_quietIn_8 : decode cX7_quietIn 8 = .ok (.ireturn, 1) := by decide +kernel
set_option maxRecDepth 20000 in
theorem ggX7_clapsFor_X2_clapsUntilEncore : GoodIn wsX7_clapsFor wsX2_clapsUntilEncore := goodIn_r _ [6, 7, 8, 9, 10, 11, 12, 13, 14, 15, 16, 17, 18, 19, 20, 26, 27, 28, 29, 30, 31, 32, 33, 34, 35, 36, 37, 38, 39, 40, 41, 42, 43, 44, 45] (by decide +kernel) (by decide +kernel)
set_option maxRecDepth 20000 in
theorem gX7_clapsFor_X2_clapsUntilEncore : GoodIn wsX7_clapsFor (wsV RX7 137 RX2 yX2_clapsUntilEncore wsX2_clapsUntilEncore) := goodIn_app (goodIn_of _ (by decide +kernel)) ggX7_clapsFor_X2_clapsUntilEncore
theorem dX7_clapsFor_0 : decode cX7_clapsFor 0 = .ok (.aload_n 0, 1) := by decide +kernel
theorem dX7_clapsFor_1 : decode cX7_clapsFor 1 = .ok (.getfield 10, 3) := by decide +kernel
theorem dX7_clapsFor_4 : decode cX7_clapsFor 4 = .ok (.iload_n 1, 1) := by decide +kernel
theorem dX7_clapsFor_5 : decode cX7_clapsFor 5 = .ok (.invokevirtual 137, 3) := by decide +kernel
theorem dX7_clapsFor_8 : decode cX7_clapsFor 8 = .ok (.ireturn, 1) := by decide +kernel
set_option maxRecDepth 20000 in
theorem ggX7_lapsesIn_X2_secondsUntilLapse : GoodIn wsX7_lapsesIn wsX2_secondsUntilLapse := goodIn_r _ [6, 7, 8, 9, 10, 11, 12, 13, 14, 15, 16, 17, 18, 19, 20, 21, 22, 23, 24, 25, 26, 27, 28, 29, 30, 36, 37, 38, 39, 40, 41, 42, 43, 44, 45, 46, 47, 48, 49, 50, 51, 52, 53] (by decide +kernel) (by decide +kernel)
set_option maxRecDepth 20000 in
theorem gX7_lapsesIn_X2_secondsUntilLapse : GoodIn wsX7_lapsesIn (wsV RX7 140 RX2 yX2_secondsUntilLapse wsX2_secondsUntilLapse) := goodIn_app (goodIn_of _ (by decide +kernel)) ggX7_lapsesIn_X2_secondsUntilLapse
theorem dX7_lapsesIn_0 : decode cX7_lapsesIn 0 = .ok (.aload_n 0, 1) := by decide +kernel
theorem dX7_lapsesIn_1 : decode cX7_lapsesIn 1 = .ok (.getfield 10, 3) := by decide +kernel
theorem dX7_lapsesIn_4 : decode cX7_lapsesIn 4 = .ok (.iload_n 1, 1) := by decide +kernel
theorem dX7_lapsesIn_5 : decode cX7_lapsesIn 5 = .ok (.invokevirtual 140, 3) := by decide +kernel
theorem dX7_lapsesIn_8 : decode cX7_lapsesIn 8 = .ok (.ireturn, 1) := by decide +kernel
set_option maxRecDepth 20000 in
theorem ggX7_calls_X2_curtainsLeft : GoodIn wsX7_calls wsX2_curtainsLeft := goodIn_r _ [6, 7, 8, 9, 10, 11, 12, 13, 14, 20, 21, 22, 23, 24, 25, 26, 27, 28, 29, 30, 31] (by decide +kernel) (by decide +kernel)
set_option maxRecDepth 20000 in
theorem gX7_calls_X2_curtainsLeft : GoodIn wsX7_calls (wsV RX7 143 RX2 yX2_curtainsLeft wsX2_curtainsLeft) := goodIn_app (goodIn_of _ (by decide +kernel)) ggX7_calls_X2_curtainsLeft
theorem dX7_calls_0 : decode cX7_calls 0 = .ok (.aload_n 0, 1) := by decide +kernel
theorem dX7_calls_1 : decode cX7_calls 1 = .ok (.getfield 10, 3) := by decide +kernel
theorem dX7_calls_4 : decode cX7_calls 4 = .ok (.invokevirtual 143, 3) := by decide +kernel
theorem dX7_calls_7 : decode cX7_calls 7 = .ok (.ireturn, 1) := by decide +kernel
set_option maxRecDepth 20000 in
theorem ggX7_ifFound_X6_suspected : GoodIn wsX7_ifFound wsX6_suspected := goodIn_r _ [8, 9, 10, 11, 12, 13, 14, 15, 32, 33, 34, 35, 36, 37, 38, 39, 40] (by decide +kernel) (by decide +kernel)
set_option maxRecDepth 20000 in
theorem gX7_ifFound_X6_suspected : GoodIn wsX7_ifFound (wsV RX7 153 RX6 yX6_suspected wsX6_suspected) := goodIn_app (goodIn_of _ (by decide +kernel)) ggX7_ifFound_X6_suspected
theorem dX7_ifFound_0 : decode cX7_ifFound 0 = .ok (.iload_n 1, 1) := by decide +kernel
theorem dX7_ifFound_1 : decode cX7_ifFound 1 = .ok (.getstatic 146, 3) := by decide +kernel
theorem dX7_ifFound_4 : decode cX7_ifFound 4 = .ok (.iconst 4, 1) := by decide +kernel
theorem dX7_ifFound_5 : decode cX7_ifFound 5 = .ok (.iaload, 1) := by decide +kernel
theorem dX7_ifFound_6 : decode cX7_ifFound 6 = .ok (.if_icmp .lt 12, 3) := by decide +kernel
theorem dX7_ifFound_9 : decode cX7_ifFound 9 = .ok (.iload_n 1, 1) := by decide +kernel
theorem dX7_ifFound_10 : decode cX7_ifFound 10 = .ok (.getstatic 150, 3) := by decide +kernel
theorem dX7_ifFound_13 : decode cX7_ifFound 13 = .ok (.iconst 4, 1) := by decide +kernel
theorem dX7_ifFound_14 : decode cX7_ifFound 14 = .ok (.iaload, 1) := by decide +kernel
theorem dX7_ifFound_15 : decode cX7_ifFound 15 = .ok (.if_icmp .le 6, 3) := by decide +kernel
theorem dX7_ifFound_18 : decode cX7_ifFound 18 = .ok (.bipush (-2), 2) := by decide +kernel
theorem dX7_ifFound_20 : decode cX7_ifFound 20 = .ok (.ireturn, 1) := by decide +kernel
theorem dX7_ifFound_21 : decode cX7_ifFound 21 = .ok (.aload_n 0, 1) := by decide +kernel
theorem dX7_ifFound_22 : decode cX7_ifFound 22 = .ok (.getfield 10, 3) := by decide +kernel
theorem dX7_ifFound_25 : decode cX7_ifFound 25 = .ok (.getfield 109, 3) := by decide +kernel
theorem dX7_ifFound_28 : decode cX7_ifFound 28 = .ok (.iload_n 1, 1) := by decide +kernel
theorem dX7_ifFound_29 : decode cX7_ifFound 29 = .ok (.invokevirtual 153, 3) := by decide +kernel
theorem dX7_ifFound_32 : decode cX7_ifFound 32 = .ok (.ireturn, 1) := by decide +kernel
set_option maxRecDepth 20000 in
theorem ggX7_put_X4_appendAll : GoodIn wsX7_put wsX4_appendAll := goodIn_r _ [6, 7, 8, 9, 10, 5, 11, 12, 13, 14, 15, 16, 22, 23] (by decide +kernel) (by decide +kernel)
set_option maxRecDepth 20000 in
theorem gX7_put_X4_appendAll : GoodIn wsX7_put (wsV RX7 156 RX4 yX4_appendAll wsX4_appendAll) := goodIn_app (goodIn_of _ (by decide +kernel)) ggX7_put_X4_appendAll
theorem dX7_put_0 : decode cX7_put 0 = .ok (.aload_n 0, 1) := by decide +kernel
theorem dX7_put_1 : decode cX7_put 1 = .ok (.getfield 30, 3) := by decide +kernel
theorem dX7_put_4 : decode cX7_put 4 = .ok (.lload_n 1, 1) := by decide +kernel
theorem dX7_put_5 : decode cX7_put 5 = .ok (.invokevirtual 156, 3) := by decide +kernel
theorem dX7_put_8 : decode cX7_put 8 = .ok (.ireturn, 1) := by decide +kernel
set_option maxRecDepth 20000 in
theorem ggX7_wipe_X4_length : GoodIn wsX7_wipe wsX4_length := goodIn_r _ [6, 7, 17, 18] (by decide +kernel) (by decide +kernel)
set_option maxRecDepth 20000 in
theorem gX7_wipe_X4_length : GoodIn wsX7_wipe (wsV RX7 86 RX4 yX4_length wsX4_length) := goodIn_app (goodIn_of _ (by decide +kernel)) ggX7_wipe_X4_length
set_option maxRecDepth 20000 in
theorem ggX7_wipe_X4_clear : GoodIn wsX7_wipe wsX4_clear := goodIn_r _ [11, 7, 17, 18] (by decide +kernel) (by decide +kernel)
set_option maxRecDepth 20000 in
theorem gX7_wipe_X4_clear : GoodIn wsX7_wipe (wsV RX7 80 RX4 yX4_clear wsX4_clear) := goodIn_app (goodIn_of _ (by decide +kernel)) ggX7_wipe_X4_clear
theorem dX7_wipe_0 : decode cX7_wipe 0 = .ok (.aload_n 0, 1) := by decide +kernel
theorem dX7_wipe_1 : decode cX7_wipe 1 = .ok (.getfield 30, 3) := by decide +kernel
theorem dX7_wipe_4 : decode cX7_wipe 4 = .ok (.invokevirtual 86, 3) := by decide +kernel
theorem dX7_wipe_7 : decode cX7_wipe 7 = .ok (.istore_n 1, 1) := by decide +kernel
theorem dX7_wipe_8 : decode cX7_wipe 8 = .ok (.aload_n 0, 1) := by decide +kernel
theorem dX7_wipe_9 : decode cX7_wipe 9 = .ok (.getfield 30, 3) := by decide +kernel
theorem dX7_wipe_12 : decode cX7_wipe 12 = .ok (.invokevirtual 80, 3) := by decide +kernel
theorem dX7_wipe_15 : decode cX7_wipe 15 = .ok (.iload_n 1, 1) := by decide +kernel
theorem dX7_wipe_16 : decode cX7_wipe 16 = .ok (.ireturn, 1) := by decide +kernel
set_option maxRecDepth 20000 in
theorem ggX7_fault_X3_faultPlace : GoodIn wsX7_fault wsX3_faultPlace := goodIn_r _ [6, 7, 8, 9, 10, 11, 5, 12, 13, 14, 15, 16, 17, 18, 19, 20, 21, 22, 23, 24, 25, 26, 27, 28, 29, 30, 31, 32, 33, 34, 35, 36, 37, 38, 39, 40, 41, 42, 48, 49, 50, 51, 52, 53, 54] (by decide +kernel) (by decide +kernel)
set_option maxRecDepth 20000 in
theorem gX7_fault_X3_faultPlace : GoodIn wsX7_fault (wsV RX7 160 RX3 yX3_faultPlace wsX3_faultPlace) := goodIn_app (goodIn_of _ (by decide +kernel)) ggX7_fault_X3_faultPlace
theorem dX7_fault_0 : decode cX7_fault 0 = .ok (.aload_n 0, 1) := by decide +kernel
theorem dX7_fault_1 : decode cX7_fault 1 = .ok (.getfield 39, 3) := by decide +kernel
theorem dX7_fault_4 : decode cX7_fault 4 = .ok (.invokevirtual 160, 3) := by decide +kernel
theorem dX7_fault_7 : decode cX7_fault 7 = .ok (.ireturn, 1) := by decide +kernel
set_option maxRecDepth 20000 in
theorem ggX7_carryOut_X3_faultPlace : GoodIn wsX7_carryOut wsX3_faultPlace := goodIn_r _ [9, 10, 11, 12, 13, 14, 8, 15, 16, 17, 18, 19, 20, 21, 22, 23, 24, 25, 26, 27, 28, 29, 30, 31, 32, 33, 34, 35, 36, 37, 38, 39, 40, 41, 42, 43, 44, 45, 246, 247, 248, 249, 250, 251, 252] (by decide +kernel) (by decide +kernel)
set_option maxRecDepth 20000 in
theorem gX7_carryOut_X3_faultPlace : GoodIn wsX7_carryOut (wsV RX7 160 RX3 yX3_faultPlace wsX3_faultPlace) := goodIn_app (goodIn_of _ (by decide +kernel)) ggX7_carryOut_X3_faultPlace
set_option maxRecDepth 20000 in
theorem ggX7_carryOut_X1_setAside : GoodIn wsX7_carryOut wsX1_setAside := goodIn_r _ [50, 51, 52, 53, 54, 49, 55, 56, 57, 58, 59, 60, 61, 62, 63, 64, 65, 66, 67, 68, 69, 70, 71, 72, 73, 74, 75, 76, 77, 78, 79, 80, 81, 82, 83, 84, 85, 86, 87, 88, 89, 90, 91, 92, 93, 94, 95, 96, 97, 98, 99, 100, 101, 102, 103, 104, 105, 106, 107, 108, 109, 110, 111, 112, 253, 254, 255, 256, 257, 258, 259, 260, 261, 262, 263, 264, 265, 266, 267, 268, 269, 270, 271, 272, 273, 274, 275, 276, 277, 278, 279, 280, 281] (by decide +kernel) (by decide +kernel)
set_option maxRecDepth 20000 in
theorem gX7_carryOut_X1_setAside : GoodIn wsX7_carryOut (wsV RX7 43 RX1 yX1_setAside wsX1_setAside) := goodIn_app (goodIn_of _ (by decide +kernel)) ggX7_carryOut_X1_setAside
set_option maxRecDepth 20000 in
theorem ggX7_carryOut_X3_carryOutIn : GoodIn wsX7_carryOut wsX3_carryOutIn := goodIn_r _ [116, 10, 17, 12, 13, 14, 8, 15, 11, 16, 18, 19, 20, 21, 22, 23, 24, 25, 26, 27, 28, 29, 30, 31, 32, 33, 34, 35, 36, 37, 38, 39, 40, 41, 117, 118, 119, 120, 121, 122, 123, 60, 124, 67, 125, 126, 127, 128, 129, 130, 131, 64, 63, 70, 68, 71, 72, 132, 133, 134, 76, 135, 78, 136, 137, 138, 90, 139, 99, 140, 141, 142, 143, 62, 65, 144, 80, 81, 82, 145, 146, 147, 148, 149, 150, 151, 152, 153, 154, 93, 94, 96, 97, 95, 155, 156, 157, 158, 159, 160, 161, 162, 163, 164, 165, 166, 167, 168, 169, 170, 171, 104, 172, 111, 109, 106, 107, 173, 174, 175, 176, 177, 178, 179, 180, 181, 182, 183, 184, 185, 186, 187, 188, 189, 190, 191, 192, 193, 194, 195, 196, 197, 108, 198, 199, 200, 201, 202, 203, 204, 205, 206, 207, 208, 209, 210, 211, 212, 213, 69, 66, 214, 215, 216, 217, 218, 219, 220, 221, 222, 223, 224, 225, 226, 227, 228, 229, 230, 246, 247, 248, 249, 250, 251, 252, 256, 257, 258, 259, 260, 261, 262, 263, 264, 265, 266, 276, 277, 278, 279, 280, 281, 267, 268, 269, 270, 271, 272, 273, 274, 275] (by decide +kernel) (by decide +kernel)
set_option maxRecDepth 20000 in
theorem gX7_carryOut_X3_carryOutIn : GoodIn wsX7_carryOut (wsV RX7 163 RX3 yX3_carryOutIn wsX3_carryOutIn) := goodIn_app (goodIn_of _ (by decide +kernel)) ggX7_carryOut_X3_carryOutIn
set_option maxRecDepth 20000 in
theorem ggX7_carryOut_X4_clear : GoodIn wsX7_carryOut wsX4_clear := goodIn_r _ [234, 23, 251, 252] (by decide +kernel) (by decide +kernel)
set_option maxRecDepth 20000 in
theorem gX7_carryOut_X4_clear : GoodIn wsX7_carryOut (wsV RX7 80 RX4 yX4_clear wsX4_clear) := goodIn_app (goodIn_of _ (by decide +kernel)) ggX7_carryOut_X4_clear
set_option maxRecDepth 20000 in
theorem ggX7_carryOut_X1_keepUnlessError : GoodIn wsX7_carryOut wsX1_keepUnlessError := goodIn_r _ [238, 51, 239, 240, 80, 81, 82, 253, 254, 255] (by decide +kernel) (by decide +kernel)
set_option maxRecDepth 20000 in
theorem gX7_carryOut_X1_keepUnlessError : GoodIn wsX7_carryOut (wsV RX7 51 RX1 yX1_keepUnlessError wsX1_keepUnlessError) := goodIn_app (goodIn_of _ (by decide +kernel)) ggX7_carryOut_X1_keepUnlessError
theorem dX7_carryOut_0 : decode cX7_carryOut 0 = .ok (.aload_n 0, 1) := by decide +kernel
theorem dX7_carryOut_1 : decode cX7_carryOut 1 = .ok (.getfield 39, 3) := by decide +kernel
theorem dX7_carryOut_4 : decode cX7_carryOut 4 = .ok (.invokevirtual 160, 3) := by decide +kernel
theorem dX7_carryOut_7 : decode cX7_carryOut 7 = .ok (.bipush (-6), 2) := by decide +kernel
theorem dX7_carryOut_9 : decode cX7_carryOut 9 = .ok (.if_icmp .eq 6, 3) := by decide +kernel
theorem dX7_carryOut_12 : decode cX7_carryOut 12 = .ok (.bipush (-3), 2) := by decide +kernel
theorem dX7_carryOut_14 : decode cX7_carryOut 14 = .ok (.ireturn, 1) := by decide +kernel
theorem dX7_carryOut_15 : decode cX7_carryOut 15 = .ok (.aload_n 0, 1) := by decide +kernel
theorem dX7_carryOut_16 : decode cX7_carryOut 16 = .ok (.getfield 19, 3) := by decide +kernel
theorem dX7_carryOut_19 : decode cX7_carryOut 19 = .ok (.aload_n 0, 1) := by decide +kernel
theorem dX7_carryOut_20 : decode cX7_carryOut 20 = .ok (.getfield 10, 3) := by decide +kernel
theorem dX7_carryOut_23 : decode cX7_carryOut 23 = .ok (.invokevirtual 43, 3) := by decide +kernel
theorem dX7_carryOut_26 : decode cX7_carryOut 26 = .ok (.aload_n 0, 1) := by decide +kernel
theorem dX7_carryOut_27 : decode cX7_carryOut 27 = .ok (.getfield 39, 3) := by decide +kernel
theorem dX7_carryOut_30 : decode cX7_carryOut 30 = .ok (.aload_n 0, 1) := by decide +kernel
theorem dX7_carryOut_31 : decode cX7_carryOut 31 = .ok (.getfield 10, 3) := by decide +kernel
theorem dX7_carryOut_34 : decode cX7_carryOut 34 = .ok (.invokevirtual 163, 3) := by decide +kernel
theorem dX7_carryOut_37 : decode cX7_carryOut 37 = .ok (.istore_n 1, 1) := by decide +kernel
theorem dX7_carryOut_38 : decode cX7_carryOut 38 = .ok (.aload_n 0, 1) := by decide +kernel
theorem dX7_carryOut_39 : decode cX7_carryOut 39 = .ok (.getfield 30, 3) := by decide +kernel
theorem dX7_carryOut_42 : decode cX7_carryOut 42 = .ok (.invokevirtual 80, 3) := by decide +kernel
theorem dX7_carryOut_45 : decode cX7_carryOut 45 = .ok (.aload_n 0, 1) := by decide +kernel
theorem dX7_carryOut_46 : decode cX7_carryOut 46 = .ok (.getfield 19, 3) := by decide +kernel
theorem dX7_carryOut_49 : decode cX7_carryOut 49 = .ok (.iload_n 1, 1) := by decide +kernel
theorem dX7_carryOut_50 : decode cX7_carryOut 50 = .ok (.invokevirtual 51, 3) := by decide +kernel
theorem dX7_carryOut_53 : decode cX7_carryOut 53 = .ok (.ireturn, 1) := by decide +kernel
set_option maxRecDepth 20000 in
theorem ggX7_undo_X1_takeBack : GoodIn wsX7_undo wsX1_takeBack := goodIn_r _ [7, 8, 9, 10, 11, 12, 6, 13, 14, 15, 16, 17, 18, 19, 20, 21, 22, 23, 24, 25, 26, 27, 28, 29, 30, 31, 32, 33, 34, 35, 36, 37, 38, 39, 40, 41, 42, 43, 44, 45, 46, 47, 48, 49, 50, 51, 52, 53, 54, 55, 56, 57, 58, 59, 60, 61, 62, 63, 64, 65, 66, 67, 68, 69, 70, 76, 77, 78, 79, 80, 81, 82, 83, 84, 85, 86, 87, 88, 89, 90, 91, 92, 93, 94, 95, 96, 97, 98, 99, 100, 101, 102, 103, 104] (by decide +kernel) (by decide +kernel)
set_option maxRecDepth 20000 in
theorem gX7_undo_X1_takeBack : GoodIn wsX7_undo (wsV RX7 167 RX1 yX1_takeBack wsX1_takeBack) := goodIn_app (goodIn_of _ (by decide +kernel)) ggX7_undo_X1_takeBack
theorem dX7_undo_0 : decode cX7_undo 0 = .ok (.aload_n 0, 1) := by decide +kernel
theorem dX7_undo_1 : decode cX7_undo 1 = .ok (.getfield 19, 3) := by decide +kernel
theorem dX7_undo_4 : decode cX7_undo 4 = .ok (.aload_n 0, 1) := by decide +kernel
theorem dX7_undo_5 : decode cX7_undo 5 = .ok (.getfield 10, 3) := by decide +kernel
theorem dX7_undo_8 : decode cX7_undo 8 = .ok (.invokevirtual 167, 3) := by decide +kernel
theorem dX7_undo_11 : decode cX7_undo 11 = .ok (.ireturn, 1) := by decide +kernel
set_option maxRecDepth 20000 in
theorem ggX7_save_X2_init : GoodIn wsX7_save wsX2_init := goodIn_r _ [8, 9, 10, 11, 12, 13, 14, 15, 16, 17, 18, 19, 20, 21, 22, 23, 24, 25, 26, 27, 28, 29, 30, 31, 32, 33, 34, 35, 36, 37, 38, 39, 40, 41, 42, 43, 44, 45, 46, 47, 48, 49, 50, 51, 52, 53, 54, 55, 56, 57, 58, 59, 60, 61, 62, 63, 64, 65, 116, 105, 106, 107, 108, 109, 110, 111, 112, 113, 114, 115, 117, 118, 119, 120, 121, 122, 123, 124, 125, 126, 127, 128, 129, 130] (by decide +kernel) (by decide +kernel)
set_option maxRecDepth 20000 in
theorem gX7_save_X2_init : GoodIn wsX7_save (wsX2_init) := ggX7_save_X2_init
set_option maxRecDepth 20000 in
theorem ggX7_save_X2_copyFrom : GoodIn wsX7_save wsX2_copyFrom := goodIn_r _ [69, 15, 19, 23, 24, 25, 70, 71, 72, 26, 73, 74, 75, 76, 77, 14, 78, 36, 79, 80, 33, 81, 82, 83, 84, 85, 86, 87, 88, 18, 89, 42, 43, 44, 45, 46, 90, 91, 92, 93, 94, 95, 96, 22, 97, 56, 57, 58, 59, 60, 98, 99, 105, 106, 107, 108, 109, 110, 111, 112, 113, 114, 115, 116, 117, 118, 119, 120, 121, 122, 123, 124, 125, 126, 127, 128, 129, 130] (by decide +kernel) (by decide +kernel)
set_option maxRecDepth 20000 in
theorem gX7_save_X2_copyFrom : GoodIn wsX7_save (wsV RX7 170 RX2 yX2_copyFrom wsX2_copyFrom) := goodIn_app (goodIn_of _ (by decide +kernel)) ggX7_save_X2_copyFrom
theorem dX7_save_0 : decode cX7_save 0 = .ok (.iload_n 1, 1) := by decide +kernel
theorem dX7_save_1 : decode cX7_save 1 = .ok (.ifCond .lt 12, 3) := by decide +kernel
theorem dX7_save_4 : decode cX7_save 4 = .ok (.iload_n 1, 1) := by decide +kernel
theorem dX7_save_5 : decode cX7_save 5 = .ok (.aload_n 0, 1) := by decide +kernel
theorem dX7_save_6 : decode cX7_save 6 = .ok (.getfield 23, 3) := by decide +kernel
theorem dX7_save_9 : decode cX7_save 9 = .ok (.arraylength, 1) := by decide +kernel
theorem dX7_save_10 : decode cX7_save 10 = .ok (.if_icmp .lt 6, 3) := by decide +kernel
theorem dX7_save_13 : decode cX7_save 13 = .ok (.bipush (-2), 2) := by decide +kernel
theorem dX7_save_15 : decode cX7_save 15 = .ok (.ireturn, 1) := by decide +kernel
theorem dX7_save_16 : decode cX7_save 16 = .ok (.aload_n 0, 1) := by decide +kernel
theorem dX7_save_17 : decode cX7_save 17 = .ok (.getfield 23, 3) := by decide +kernel
theorem dX7_save_20 : decode cX7_save 20 = .ok (.iload_n 1, 1) := by decide +kernel
theorem dX7_save_21 : decode cX7_save 21 = .ok (.aaload, 1) := by decide +kernel
theorem dX7_save_22 : decode cX7_save 22 = .ok (.astore_n 2, 1) := by decide +kernel
theorem dX7_save_23 : decode cX7_save 23 = .ok (.aload_n 2, 1) := by decide +kernel
theorem dX7_save_24 : decode cX7_save 24 = .ok (.ifnonnull 18, 3) := by decide +kernel
theorem dX7_save_27 : decode cX7_save 27 = .ok (.new 7, 3) := by decide +kernel
theorem dX7_save_30 : decode cX7_save 30 = .ok (.dup, 1) := by decide +kernel
theorem dX7_save_31 : decode cX7_save 31 = .ok (.invokespecial 9, 3) := by decide +kernel
theorem dX7_save_34 : decode cX7_save 34 = .ok (.astore_n 2, 1) := by decide +kernel
theorem dX7_save_35 : decode cX7_save 35 = .ok (.aload_n 0, 1) := by decide +kernel
theorem dX7_save_36 : decode cX7_save 36 = .ok (.getfield 23, 3) := by decide +kernel
theorem dX7_save_39 : decode cX7_save 39 = .ok (.iload_n 1, 1) := by decide +kernel
theorem dX7_save_40 : decode cX7_save 40 = .ok (.aload_n 2, 1) := by decide +kernel
theorem dX7_save_41 : decode cX7_save 41 = .ok (.aastore, 1) := by decide +kernel
theorem dX7_save_42 : decode cX7_save 42 = .ok (.aload_n 2, 1) := by decide +kernel
theorem dX7_save_43 : decode cX7_save 43 = .ok (.aload_n 0, 1) := by decide +kernel
theorem dX7_save_44 : decode cX7_save 44 = .ok (.getfield 10, 3) := by decide +kernel
theorem dX7_save_47 : decode cX7_save 47 = .ok (.invokevirtual 170, 3) := by decide +kernel
theorem dX7_save_50 : decode cX7_save 50 = .ok (.aload_n 0, 1) := by decide +kernel
theorem dX7_save_51 : decode cX7_save 51 = .ok (.getfield 10, 3) := by decide +kernel
theorem dX7_save_54 : decode cX7_save 54 = .ok (.getfield 173, 3) := by decide +kernel
theorem dX7_save_57 : decode cX7_save 57 = .ok (.ireturn, 1) := by decide +kernel
set_option maxRecDepth 20000 in
theorem ggX7_restore_X1_setAside : GoodIn wsX7_restore wsX1_setAside := goodIn_r _ [8, 9, 10, 11, 12, 7, 13, 14, 15, 16, 17, 18, 19, 20, 21, 22, 23, 24, 25, 26, 27, 28, 29, 30, 31, 32, 33, 34, 35, 36, 37, 38, 39, 40, 41, 42, 43, 44, 45, 46, 47, 48, 49, 50, 51, 52, 53, 54, 55, 56, 57, 58, 59, 60, 61, 62, 63, 64, 65, 66, 67, 68, 69, 70, 94, 95, 96, 83, 84, 85, 86, 87, 88, 89, 90, 91, 92, 93, 97, 98, 99, 100, 101, 102, 103, 104, 105, 106, 107, 108, 109, 110, 111] (by decide +kernel) (by decide +kernel)
set_option maxRecDepth 20000 in
theorem gX7_restore_X1_setAside : GoodIn wsX7_restore (wsV RX7 43 RX1 yX1_setAside wsX1_setAside) := goodIn_app (goodIn_of _ (by decide +kernel)) ggX7_restore_X1_setAside
set_option maxRecDepth 20000 in
theorem ggX7_restore_X2_copyFrom : GoodIn wsX7_restore wsX2_copyFrom := goodIn_r _ [19, 20, 21, 22, 23, 24, 25, 26, 27, 28, 29, 30, 31, 32, 33, 34, 35, 36, 37, 38, 39, 40, 41, 42, 43, 44, 45, 46, 47, 48, 49, 50, 51, 52, 53, 54, 55, 56, 57, 58, 59, 60, 61, 62, 63, 64, 65, 66, 67, 68, 69, 70, 83, 84, 85, 86, 87, 88, 89, 90, 91, 92, 93, 97, 98, 99, 100, 101, 102, 103, 104, 105, 106, 107, 108, 109, 110, 111] (by decide +kernel) (by decide +kernel)
set_option maxRecDepth 20000 in
theorem gX7_restore_X2_copyFrom : GoodIn wsX7_restore (wsV RX7 170 RX2 yX2_copyFrom wsX2_copyFrom) := goodIn_app (goodIn_of _ (by decide +kernel)) ggX7_restore_X2_copyFrom
set_option maxRecDepth 20000 in
theorem ggX7_restore_X1_keepUnlessError : GoodIn wsX7_restore wsX1_keepUnlessError := goodIn_r _ [75, 9, 76, 77, 38, 39, 40, 94, 95, 96] (by decide +kernel) (by decide +kernel)
set_option maxRecDepth 20000 in
theorem gX7_restore_X1_keepUnlessError : GoodIn wsX7_restore (wsV RX7 51 RX1 yX1_keepUnlessError wsX1_keepUnlessError) := goodIn_app (goodIn_of _ (by decide +kernel)) ggX7_restore_X1_keepUnlessError
theorem dX7_restore_0 : decode cX7_restore 0 = .ok (.iload_n 1, 1) := by decide +kernel
theorem dX7_restore_1 : decode cX7_restore 1 = .ok (.ifCond .lt 12, 3) := by decide +kernel
theorem dX7_restore_4 : decode cX7_restore 4 = .ok (.iload_n 1, 1) := by decide +kernel
theorem dX7_restore_5 : decode cX7_restore 5 = .ok (.aload_n 0, 1) := by decide +kernel
theorem dX7_restore_6 : decode cX7_restore 6 = .ok (.getfield 23, 3) := by decide +kernel
theorem dX7_restore_9 : decode cX7_restore 9 = .ok (.arraylength, 1) := by decide +kernel
theorem dX7_restore_10 : decode cX7_restore 10 = .ok (.if_icmp .lt 6, 3) := by decide +kernel
theorem dX7_restore_13 : decode cX7_restore 13 = .ok (.bipush (-2), 2) := by decide +kernel
theorem dX7_restore_15 : decode cX7_restore 15 = .ok (.ireturn, 1) := by decide +kernel
theorem dX7_restore_16 : decode cX7_restore 16 = .ok (.aload_n 0, 1) := by decide +kernel
theorem dX7_restore_17 : decode cX7_restore 17 = .ok (.getfield 23, 3) := by decide +kernel
theorem dX7_restore_20 : decode cX7_restore 20 = .ok (.iload_n 1, 1) := by decide +kernel
theorem dX7_restore_21 : decode cX7_restore 21 = .ok (.aaload, 1) := by decide +kernel
theorem dX7_restore_22 : decode cX7_restore 22 = .ok (.astore_n 2, 1) := by decide +kernel
theorem dX7_restore_23 : decode cX7_restore 23 = .ok (.aload_n 2, 1) := by decide +kernel
theorem dX7_restore_24 : decode cX7_restore 24 = .ok (.ifnonnull 6, 3) := by decide +kernel
theorem dX7_restore_27 : decode cX7_restore 27 = .ok (.bipush (-5), 2) := by decide +kernel
theorem dX7_restore_29 : decode cX7_restore 29 = .ok (.ireturn, 1) := by decide +kernel
theorem dX7_restore_30 : decode cX7_restore 30 = .ok (.aload_n 0, 1) := by decide +kernel
theorem dX7_restore_31 : decode cX7_restore 31 = .ok (.getfield 19, 3) := by decide +kernel
theorem dX7_restore_34 : decode cX7_restore 34 = .ok (.aload_n 0, 1) := by decide +kernel
theorem dX7_restore_35 : decode cX7_restore 35 = .ok (.getfield 10, 3) := by decide +kernel
theorem dX7_restore_38 : decode cX7_restore 38 = .ok (.invokevirtual 43, 3) := by decide +kernel
theorem dX7_restore_41 : decode cX7_restore 41 = .ok (.aload_n 0, 1) := by decide +kernel
theorem dX7_restore_42 : decode cX7_restore 42 = .ok (.getfield 10, 3) := by decide +kernel
theorem dX7_restore_45 : decode cX7_restore 45 = .ok (.aload_n 2, 1) := by decide +kernel
theorem dX7_restore_46 : decode cX7_restore 46 = .ok (.invokevirtual 170, 3) := by decide +kernel
theorem dX7_restore_49 : decode cX7_restore 49 = .ok (.aload_n 0, 1) := by decide +kernel
theorem dX7_restore_50 : decode cX7_restore 50 = .ok (.getfield 19, 3) := by decide +kernel
theorem dX7_restore_53 : decode cX7_restore 53 = .ok (.aload_n 0, 1) := by decide +kernel
theorem dX7_restore_54 : decode cX7_restore 54 = .ok (.getfield 10, 3) := by decide +kernel
theorem dX7_restore_57 : decode cX7_restore 57 = .ok (.getfield 173, 3) := by decide +kernel
theorem dX7_restore_60 : decode cX7_restore 60 = .ok (.invokevirtual 51, 3) := by decide +kernel
theorem dX7_restore_63 : decode cX7_restore 63 = .ok (.ireturn, 1) := by decide +kernel
theorem dX7_isSeat_0 : decode cX7_isSeat 0 = .ok (.iload_n 0, 1) := by decide +kernel
theorem dX7_isSeat_1 : decode cX7_isSeat 1 = .ok (.ifCond .lt 13, 3) := by decide +kernel
theorem dX7_isSeat_4 : decode cX7_isSeat 4 = .ok (.iload_n 0, 1) := by decide +kernel
theorem dX7_isSeat_5 : decode cX7_isSeat 5 = .ok (.bipush 30, 2) := by decide +kernel
theorem dX7_isSeat_7 : decode cX7_isSeat 7 = .ok (.if_icmp .ge 7, 3) := by decide +kernel
theorem dX7_isSeat_10 : decode cX7_isSeat 10 = .ok (.iconst 1, 1) := by decide +kernel
theorem dX7_isSeat_11 : decode cX7_isSeat 11 = .ok (.goto 4, 3) := by decide +kernel
theorem dX7_isSeat_14 : decode cX7_isSeat 14 = .ok (.iconst 0, 1) := by decide +kernel
theorem dX7_isSeat_15 : decode cX7_isSeat 15 = .ok (.ireturn, 1) := by decide +kernel
theorem dX7_isPerformer_0 : decode cX7_isPerformer 0 = .ok (.iload_n 0, 1) := by decide +kernel
theorem dX7_isPerformer_1 : decode cX7_isPerformer 1 = .ok (.ifCond .lt 13, 3) := by decide +kernel
theorem dX7_isPerformer_4 : decode cX7_isPerformer 4 = .ok (.iload_n 0, 1) := by decide +kernel
theorem dX7_isPerformer_5 : decode cX7_isPerformer 5 = .ok (.bipush 6, 2) := by decide +kernel
theorem dX7_isPerformer_7 : decode cX7_isPerformer 7 = .ok (.if_icmp .ge 7, 3) := by decide +kernel
theorem dX7_isPerformer_10 : decode cX7_isPerformer 10 = .ok (.iconst 1, 1) := by decide +kernel
theorem dX7_isPerformer_11 : decode cX7_isPerformer 11 = .ok (.goto 4, 3) := by decide +kernel
theorem dX7_isPerformer_14 : decode cX7_isPerformer 14 = .ok (.iconst 0, 1) := by decide +kernel
theorem dX7_isPerformer_15 : decode cX7_isPerformer 15 = .ok (.ireturn, 1) := by decide +kernel
theorem dX7_afterSecond_0 : decode cX7_afterSecond 0 = .ok (.iload_n 0, 1) := by decide +kernel
theorem dX7_afterSecond_1 : decode cX7_afterSecond 1 = .ok (.ifCond .gt 7, 3) := by decide +kernel
theorem dX7_afterSecond_4 : decode cX7_afterSecond 4 = .ok (.iconst 0, 1) := by decide +kernel
theorem dX7_afterSecond_5 : decode cX7_afterSecond 5 = .ok (.goto 15, 3) := by decide +kernel
theorem dX7_afterSecond_8 : decode cX7_afterSecond 8 = .ok (.iload_n 0, 1) := by decide +kernel
theorem dX7_afterSecond_9 : decode cX7_afterSecond 9 = .ok (.iload_n 0, 1) := by decide +kernel
theorem dX7_afterSecond_10 : decode cX7_afterSecond 10 = .ok (.iload_n 1, 1) := by decide +kernel
theorem dX7_afterSecond_11 : decode cX7_afterSecond 11 = .ok (.imul, 1) := by decide +kernel
theorem dX7_afterSecond_12 : decode cX7_afterSecond 12 = .ok (.bipush 100, 2) := by decide +kernel
theorem dX7_afterSecond_14 : decode cX7_afterSecond 14 = .ok (.idiv, 1) := by decide +kernel
theorem dX7_afterSecond_15 : decode cX7_afterSecond 15 = .ok (.iconst 1, 1) := by decide +kernel
theorem dX7_afterSecond_16 : decode cX7_afterSecond 16 = .ok (.invokestatic 176, 3) := by decide +kernel
theorem dX7_afterSecond_19 : decode cX7_afterSecond 19 = .ok (.isub, 1) := by decide +kernel
theorem dX7_afterSecond_20 : decode cX7_afterSecond 20 = .ok (.ireturn, 1) := by decide +kernel
end
section
set_option maxRecDepth 20000 in
theorem ggX8_init_X8_setSeat : GoodIn wsX8_init wsX8_setSeat := goodIn_r _ [15, 5, 16, 17, 18, 19, 20, 21, 22, 23, 24, 25, 26, 27] (by decide +kernel) (by decide +kernel)
set_option maxRecDepth 20000 in
theorem gX8_init_X8_setSeat : GoodIn wsX8_init (wsV RX8 28 RX8 yX8_setSeat wsX8_setSeat) := goodIn_app (goodIn_of _ (by decide +kernel)) ggX8_init_X8_setSeat
theorem dX8_init_0 : decode cX8_init 0 = .ok (.aload_n 0, 1) := by decide +kernel
theorem dX8_init_1 : decode cX8_init 1 = .ok (.invokespecial 1, 3) := by decide +kernel
theorem dX8_init_4 : decode cX8_init 4 = .ok (.aload_n 0, 1) := by decide +kernel
theorem dX8_init_5 : decode cX8_init 5 = .ok (.sipush 288, 3) := by decide +kernel
theorem dX8_init_8 : decode cX8_init 8 = .ok (.newarray .int, 2) := by decide +kernel
theorem dX8_init_10 : decode cX8_init 10 = .ok (.putfield 7, 3) := by decide +kernel
theorem dX8_init_13 : decode cX8_init 13 = .ok (.aload_n 0, 1) := by decide +kernel
theorem dX8_init_14 : decode cX8_init 14 = .ok (.sipush 288, 3) := by decide +kernel
theorem dX8_init_17 : decode cX8_init 17 = .ok (.newarray .int, 2) := by decide +kernel
theorem dX8_init_19 : decode cX8_init 19 = .ok (.putfield 13, 3) := by decide +kernel
theorem dX8_init_22 : decode cX8_init 22 = .ok (.aload_n 0, 1) := by decide +kernel
theorem dX8_init_23 : decode cX8_init 23 = .ok (.sipush 1728, 3) := by decide +kernel
theorem dX8_init_26 : decode cX8_init 26 = .ok (.newarray .int, 2) := by decide +kernel
theorem dX8_init_28 : decode cX8_init 28 = .ok (.putfield 16, 3) := by decide +kernel
theorem dX8_init_31 : decode cX8_init 31 = .ok (.aload_n 0, 1) := by decide +kernel
theorem dX8_init_32 : decode cX8_init 32 = .ok (.sipush 576, 3) := by decide +kernel
theorem dX8_init_35 : decode cX8_init 35 = .ok (.newarray .int, 2) := by decide +kernel
theorem dX8_init_37 : decode cX8_init 37 = .ok (.putfield 19, 3) := by decide +kernel
theorem dX8_init_40 : decode cX8_init 40 = .ok (.aload_n 0, 1) := by decide +kernel
theorem dX8_init_41 : decode cX8_init 41 = .ok (.iconst 2, 1) := by decide +kernel
theorem dX8_init_42 : decode cX8_init 42 = .ok (.newarray .int, 2) := by decide +kernel
theorem dX8_init_44 : decode cX8_init 44 = .ok (.putfield 22, 3) := by decide +kernel
theorem dX8_init_47 : decode cX8_init 47 = .ok (.aload_n 0, 1) := by decide +kernel
theorem dX8_init_48 : decode cX8_init 48 = .ok (.bipush 80, 2) := by decide +kernel
theorem dX8_init_50 : decode cX8_init 50 = .ok (.newarray .int, 2) := by decide +kernel
theorem dX8_init_52 : decode cX8_init 52 = .ok (.putfield 25, 3) := by decide +kernel
theorem dX8_init_55 : decode cX8_init 55 = .ok (.aload_n 0, 1) := by decide +kernel
theorem dX8_init_56 : decode cX8_init 56 = .ok (.getfield 7, 3) := by decide +kernel
theorem dX8_init_59 : decode cX8_init 59 = .ok (.iconst 0, 1) := by decide +kernel
theorem dX8_init_60 : decode cX8_init 60 = .ok (.bipush 10, 2) := by decide +kernel
theorem dX8_init_62 : decode cX8_init 62 = .ok (.iastore, 1) := by decide +kernel
theorem dX8_init_63 : decode cX8_init 63 = .ok (.aload_n 0, 1) := by decide +kernel
theorem dX8_init_64 : decode cX8_init 64 = .ok (.getfield 7, 3) := by decide +kernel
theorem dX8_init_67 : decode cX8_init 67 = .ok (.iconst 1, 1) := by decide +kernel
theorem dX8_init_68 : decode cX8_init 68 = .ok (.sipush 200, 3) := by decide +kernel
theorem dX8_init_71 : decode cX8_init 71 = .ok (.iastore, 1) := by decide +kernel
theorem dX8_init_72 : decode cX8_init 72 = .ok (.aload_n 0, 1) := by decide +kernel
theorem dX8_init_73 : decode cX8_init 73 = .ok (.getfield 7, 3) := by decide +kernel
theorem dX8_init_76 : decode cX8_init 76 = .ok (.iconst 2, 1) := by decide +kernel
theorem dX8_init_77 : decode cX8_init 77 = .ok (.bipush 60, 2) := by decide +kernel
theorem dX8_init_79 : decode cX8_init 79 = .ok (.iastore, 1) := by decide +kernel
theorem dX8_init_80 : decode cX8_init 80 = .ok (.aload_n 0, 1) := by decide +kernel
theorem dX8_init_81 : decode cX8_init 81 = .ok (.getfield 7, 3) := by decide +kernel
theorem dX8_init_84 : decode cX8_init 84 = .ok (.iconst 3, 1) := by decide +kernel
theorem dX8_init_85 : decode cX8_init 85 = .ok (.iconst 2, 1) := by decide +kernel
theorem dX8_init_86 : decode cX8_init 86 = .ok (.iastore, 1) := by decide +kernel
theorem dX8_init_87 : decode cX8_init 87 = .ok (.aload_n 0, 1) := by decide +kernel
theorem dX8_init_88 : decode cX8_init 88 = .ok (.getfield 7, 3) := by decide +kernel
theorem dX8_init_91 : decode cX8_init 91 = .ok (.iconst 4, 1) := by decide +kernel
theorem dX8_init_92 : decode cX8_init 92 = .ok (.iconst 3, 1) := by decide +kernel
theorem dX8_init_93 : decode cX8_init 93 = .ok (.iastore, 1) := by decide +kernel
theorem dX8_init_94 : decode cX8_init 94 = .ok (.aload_n 0, 1) := by decide +kernel
theorem dX8_init_95 : decode cX8_init 95 = .ok (.getfield 7, 3) := by decide +kernel
theorem dX8_init_98 : decode cX8_init 98 = .ok (.iconst 5, 1) := by decide +kernel
theorem dX8_init_99 : decode cX8_init 99 = .ok (.bipush 50, 2) := by decide +kernel
theorem dX8_init_101 : decode cX8_init 101 = .ok (.iastore, 1) := by decide +kernel
theorem dX8_init_102 : decode cX8_init 102 = .ok (.iconst 0, 1) := by decide +kernel
theorem dX8_init_103 : decode cX8_init 103 = .ok (.istore_n 1, 1) := by decide +kernel
theorem dX8_init_104 : decode cX8_init 104 = .ok (.iload_n 1, 1) := by decide +kernel
theorem dX8_init_105 : decode cX8_init 105 = .ok (.bipush 30, 2) := by decide +kernel
theorem dX8_init_107 : decode cX8_init 107 = .ok (.if_icmp .ge 16, 3) := by decide +kernel
theorem dX8_init_110 : decode cX8_init 110 = .ok (.aload_n 0, 1) := by decide +kernel
theorem dX8_init_111 : decode cX8_init 111 = .ok (.iload_n 1, 1) := by decide +kernel
theorem dX8_init_112 : decode cX8_init 112 = .ok (.iconst 0, 1) := by decide +kernel
theorem dX8_init_113 : decode cX8_init 113 = .ok (.iconst 3, 1) := by decide +kernel
theorem dX8_init_114 : decode cX8_init 114 = .ok (.invokevirtual 28, 3) := by decide +kernel
theorem dX8_init_117 : decode cX8_init 117 = .ok (.iinc 1 1, 3) := by decide +kernel
theorem dX8_init_120 : decode cX8_init 120 = .ok (.goto (-16), 3) := by decide +kernel
theorem dX8_init_123 : decode cX8_init 123 = .ok (.return_, 1) := by decide +kernel
theorem dX8_within_0 : decode cX8_within 0 = .ok (.iload_n 0, 1) := by decide +kernel
theorem dX8_within_1 : decode cX8_within 1 = .ok (.iload_n 1, 1) := by decide +kernel
theorem dX8_within_2 : decode cX8_within 2 = .ok (.if_icmp .lt 12, 3) := by decide +kernel
theorem dX8_within_5 : decode cX8_within 5 = .ok (.iload_n 0, 1) := by decide +kernel
theorem dX8_within_6 : decode cX8_within 6 = .ok (.iload_n 2, 1) := by decide +kernel
theorem dX8_within_7 : decode cX8_within 7 = .ok (.if_icmp .gt 7, 3) := by decide +kernel
theorem dX8_within_10 : decode cX8_within 10 = .ok (.iconst 1, 1) := by decide +kernel
theorem dX8_within_11 : decode cX8_within 11 = .ok (.goto 4, 3) := by decide +kernel
theorem dX8_within_14 : decode cX8_within 14 = .ok (.iconst 0, 1) := by decide +kernel
theorem dX8_within_15 : decode cX8_within 15 = .ok (.ireturn, 1) := by decide +kernel
set_option maxRecDepth 20000 in
theorem ggX8_isSeat_X8_within : GoodIn wsX8_isSeat wsX8_within := goodIn_r _ [4] (by decide +kernel) (by decide +kernel)
set_option maxRecDepth 20000 in
theorem gX8_isSeat_X8_within : GoodIn wsX8_isSeat (va_wsS RX8 32 yX8_within wsX8_within) := goodIn_app (goodIn_of _ (by decide +kernel)) ggX8_isSeat_X8_within
theorem dX8_isSeat_0 : decode cX8_isSeat 0 = .ok (.iload_n 0, 1) := by decide +kernel
theorem dX8_isSeat_1 : decode cX8_isSeat 1 = .ok (.iconst 0, 1) := by decide +kernel
theorem dX8_isSeat_2 : decode cX8_isSeat 2 = .ok (.bipush 29, 2) := by decide +kernel
theorem dX8_isSeat_4 : decode cX8_isSeat 4 = .ok (.invokestatic 32, 3) := by decide +kernel
theorem dX8_isSeat_7 : decode cX8_isSeat 7 = .ok (.ireturn, 1) := by decide +kernel
set_option maxRecDepth 20000 in
theorem ggX8_isPerformer_X8_within : GoodIn wsX8_isPerformer wsX8_within := goodIn_r _ [4] (by decide +kernel) (by decide +kernel)
set_option maxRecDepth 20000 in
theorem gX8_isPerformer_X8_within : GoodIn wsX8_isPerformer (va_wsS RX8 32 yX8_within wsX8_within) := goodIn_app (goodIn_of _ (by decide +kernel)) ggX8_isPerformer_X8_within
theorem dX8_isPerformer_0 : decode cX8_isPerformer 0 = .ok (.iload_n 0, 1) := by decide +kernel
theorem dX8_isPerformer_1 : decode cX8_isPerformer 1 = .ok (.iconst 0, 1) := by decide +kernel
theorem dX8_isPerformer_2 : decode cX8_isPerformer 2 = .ok (.iconst 5, 1) := by decide +kernel
theorem dX8_isPerformer_3 : decode cX8_isPerformer 3 = .ok (.invokestatic 32, 3) := by decide +kernel
theorem dX8_isPerformer_6 : decode cX8_isPerformer 6 = .ok (.ireturn, 1) := by decide +kernel
theorem dX8_seat_0 : decode cX8_seat 0 = .ok (.aload_n 0, 1) := by decide +kernel
theorem dX8_seat_1 : decode cX8_seat 1 = .ok (.getfield 7, 3) := by decide +kernel
theorem dX8_seat_4 : decode cX8_seat 4 = .ok (.bipush 20, 2) := by decide +kernel
theorem dX8_seat_6 : decode cX8_seat 6 = .ok (.bipush 6, 2) := by decide +kernel
theorem dX8_seat_8 : decode cX8_seat 8 = .ok (.iload_n 1, 1) := by decide +kernel
theorem dX8_seat_9 : decode cX8_seat 9 = .ok (.imul, 1) := by decide +kernel
theorem dX8_seat_10 : decode cX8_seat 10 = .ok (.iadd, 1) := by decide +kernel
theorem dX8_seat_11 : decode cX8_seat 11 = .ok (.iload_n 2, 1) := by decide +kernel
theorem dX8_seat_12 : decode cX8_seat 12 = .ok (.iadd, 1) := by decide +kernel
theorem dX8_seat_13 : decode cX8_seat 13 = .ok (.iaload, 1) := by decide +kernel
theorem dX8_seat_14 : decode cX8_seat 14 = .ok (.ireturn, 1) := by decide +kernel
theorem dX8_setSeat_0 : decode cX8_setSeat 0 = .ok (.aload_n 0, 1) := by decide +kernel
theorem dX8_setSeat_1 : decode cX8_setSeat 1 = .ok (.getfield 7, 3) := by decide +kernel
theorem dX8_setSeat_4 : decode cX8_setSeat 4 = .ok (.bipush 20, 2) := by decide +kernel
theorem dX8_setSeat_6 : decode cX8_setSeat 6 = .ok (.bipush 6, 2) := by decide +kernel
theorem dX8_setSeat_8 : decode cX8_setSeat 8 = .ok (.iload_n 1, 1) := by decide +kernel
theorem dX8_setSeat_9 : decode cX8_setSeat 9 = .ok (.imul, 1) := by decide +kernel
theorem dX8_setSeat_10 : decode cX8_setSeat 10 = .ok (.iadd, 1) := by decide +kernel
theorem dX8_setSeat_11 : decode cX8_setSeat 11 = .ok (.iload_n 2, 1) := by decide +kernel
theorem dX8_setSeat_12 : decode cX8_setSeat 12 = .ok (.iadd, 1) := by decide +kernel
theorem dX8_setSeat_13 : decode cX8_setSeat 13 = .ok (.iload_n 3, 1) := by decide +kernel
theorem dX8_setSeat_14 : decode cX8_setSeat 14 = .ok (.iastore, 1) := by decide +kernel
theorem dX8_setSeat_15 : decode cX8_setSeat 15 = .ok (.return_, 1) := by decide +kernel
theorem dX8_ofPerformer_0 : decode cX8_ofPerformer 0 = .ok (.aload_n 0, 1) := by decide +kernel
theorem dX8_ofPerformer_1 : decode cX8_ofPerformer 1 = .ok (.getfield 7, 3) := by decide +kernel
theorem dX8_ofPerformer_4 : decode cX8_ofPerformer 4 = .ok (.sipush 200, 3) := by decide +kernel
theorem dX8_ofPerformer_7 : decode cX8_ofPerformer 7 = .ok (.iconst 3, 1) := by decide +kernel
theorem dX8_ofPerformer_8 : decode cX8_ofPerformer 8 = .ok (.iload_n 1, 1) := by decide +kernel
theorem dX8_ofPerformer_9 : decode cX8_ofPerformer 9 = .ok (.imul, 1) := by decide +kernel
theorem dX8_ofPerformer_10 : decode cX8_ofPerformer 10 = .ok (.iadd, 1) := by decide +kernel
theorem dX8_ofPerformer_11 : decode cX8_ofPerformer 11 = .ok (.iload_n 2, 1) := by decide +kernel
theorem dX8_ofPerformer_12 : decode cX8_ofPerformer 12 = .ok (.iadd, 1) := by decide +kernel
theorem dX8_ofPerformer_13 : decode cX8_ofPerformer 13 = .ok (.iaload, 1) := by decide +kernel
theorem dX8_ofPerformer_14 : decode cX8_ofPerformer 14 = .ok (.ireturn, 1) := by decide +kernel
theorem dX8_putAside_0 : decode cX8_putAside 0 = .ok (.iconst 0, 1) := by decide +kernel
theorem dX8_putAside_1 : decode cX8_putAside 1 = .ok (.istore_n 1, 1) := by decide +kernel
theorem dX8_putAside_2 : decode cX8_putAside 2 = .ok (.iload_n 1, 1) := by decide +kernel
theorem dX8_putAside_3 : decode cX8_putAside 3 = .ok (.sipush 288, 3) := by decide +kernel
theorem dX8_putAside_6 : decode cX8_putAside 6 = .ok (.if_icmp .ge 21, 3) := by decide +kernel
theorem dX8_putAside_9 : decode cX8_putAside 9 = .ok (.aload_n 0, 1) := by decide +kernel
theorem dX8_putAside_10 : decode cX8_putAside 10 = .ok (.getfield 13, 3) := by decide +kernel
theorem dX8_putAside_13 : decode cX8_putAside 13 = .ok (.iload_n 1, 1) := by decide +kernel
theorem dX8_putAside_14 : decode cX8_putAside 14 = .ok (.aload_n 0, 1) := by decide +kernel
theorem dX8_putAside_15 : decode cX8_putAside 15 = .ok (.getfield 7, 3) := by decide +kernel
theorem dX8_putAside_18 : decode cX8_putAside 18 = .ok (.iload_n 1, 1) := by decide +kernel
theorem dX8_putAside_19 : decode cX8_putAside 19 = .ok (.iaload, 1) := by decide +kernel
theorem dX8_putAside_20 : decode cX8_putAside 20 = .ok (.iastore, 1) := by decide +kernel
theorem dX8_putAside_21 : decode cX8_putAside 21 = .ok (.iinc 1 1, 3) := by decide +kernel
theorem dX8_putAside_24 : decode cX8_putAside 24 = .ok (.goto (-22), 3) := by decide +kernel
theorem dX8_putAside_27 : decode cX8_putAside 27 = .ok (.return_, 1) := by decide +kernel
theorem dX8_push_0 : decode cX8_push 0 = .ok (.aload_n 0, 1) := by decide +kernel
theorem dX8_push_1 : decode cX8_push 1 = .ok (.getfield 36, 3) := by decide +kernel
theorem dX8_push_4 : decode cX8_push 4 = .ok (.bipush 6, 2) := by decide +kernel
theorem dX8_push_6 : decode cX8_push 6 = .ok (.if_icmp .ne 44, 3) := by decide +kernel
theorem dX8_push_9 : decode cX8_push 9 = .ok (.iconst 0, 1) := by decide +kernel
theorem dX8_push_10 : decode cX8_push 10 = .ok (.istore_n 1, 1) := by decide +kernel
theorem dX8_push_11 : decode cX8_push 11 = .ok (.iload_n 1, 1) := by decide +kernel
theorem dX8_push_12 : decode cX8_push 12 = .ok (.sipush 1440, 3) := by decide +kernel
theorem dX8_push_15 : decode cX8_push 15 = .ok (.if_icmp .ge 25, 3) := by decide +kernel
theorem dX8_push_18 : decode cX8_push 18 = .ok (.aload_n 0, 1) := by decide +kernel
theorem dX8_push_19 : decode cX8_push 19 = .ok (.getfield 16, 3) := by decide +kernel
theorem dX8_push_22 : decode cX8_push 22 = .ok (.iload_n 1, 1) := by decide +kernel
theorem dX8_push_23 : decode cX8_push 23 = .ok (.aload_n 0, 1) := by decide +kernel
theorem dX8_push_24 : decode cX8_push 24 = .ok (.getfield 16, 3) := by decide +kernel
theorem dX8_push_27 : decode cX8_push 27 = .ok (.iload_n 1, 1) := by decide +kernel
theorem dX8_push_28 : decode cX8_push 28 = .ok (.sipush 288, 3) := by decide +kernel
theorem dX8_push_31 : decode cX8_push 31 = .ok (.iadd, 1) := by decide +kernel
theorem dX8_push_32 : decode cX8_push 32 = .ok (.iaload, 1) := by decide +kernel
theorem dX8_push_33 : decode cX8_push 33 = .ok (.iastore, 1) := by decide +kernel
theorem dX8_push_34 : decode cX8_push 34 = .ok (.iinc 1 1, 3) := by decide +kernel
theorem dX8_push_37 : decode cX8_push 37 = .ok (.goto (-26), 3) := by decide +kernel
theorem dX8_push_40 : decode cX8_push 40 = .ok (.aload_n 0, 1) := by decide +kernel
theorem dX8_push_41 : decode cX8_push 41 = .ok (.dup, 1) := by decide +kernel
theorem dX8_push_42 : decode cX8_push 42 = .ok (.getfield 36, 3) := by decide +kernel
theorem dX8_push_45 : decode cX8_push 45 = .ok (.iconst 1, 1) := by decide +kernel
theorem dX8_push_46 : decode cX8_push 46 = .ok (.isub, 1) := by decide +kernel
theorem dX8_push_47 : decode cX8_push 47 = .ok (.putfield 36, 3) := by decide +kernel
theorem dX8_push_50 : decode cX8_push 50 = .ok (.iconst 0, 1) := by decide +kernel
theorem dX8_push_51 : decode cX8_push 51 = .ok (.istore_n 1, 1) := by decide +kernel
theorem dX8_push_52 : decode cX8_push 52 = .ok (.iload_n 1, 1) := by decide +kernel
theorem dX8_push_53 : decode cX8_push 53 = .ok (.sipush 288, 3) := by decide +kernel
theorem dX8_push_56 : decode cX8_push 56 = .ok (.if_icmp .ge 30, 3) := by decide +kernel
theorem dX8_push_59 : decode cX8_push 59 = .ok (.aload_n 0, 1) := by decide +kernel
theorem dX8_push_60 : decode cX8_push 60 = .ok (.getfield 16, 3) := by decide +kernel
theorem dX8_push_63 : decode cX8_push 63 = .ok (.aload_n 0, 1) := by decide +kernel
theorem dX8_push_64 : decode cX8_push 64 = .ok (.getfield 36, 3) := by decide +kernel
theorem dX8_push_67 : decode cX8_push 67 = .ok (.sipush 288, 3) := by decide +kernel
theorem dX8_push_70 : decode cX8_push 70 = .ok (.imul, 1) := by decide +kernel
theorem dX8_push_71 : decode cX8_push 71 = .ok (.iload_n 1, 1) := by decide +kernel
theorem dX8_push_72 : decode cX8_push 72 = .ok (.iadd, 1) := by decide +kernel
theorem dX8_push_73 : decode cX8_push 73 = .ok (.aload_n 0, 1) := by decide +kernel
theorem dX8_push_74 : decode cX8_push 74 = .ok (.getfield 13, 3) := by decide +kernel
theorem dX8_push_77 : decode cX8_push 77 = .ok (.iload_n 1, 1) := by decide +kernel
theorem dX8_push_78 : decode cX8_push 78 = .ok (.iaload, 1) := by decide +kernel
theorem dX8_push_79 : decode cX8_push 79 = .ok (.iastore, 1) := by decide +kernel
theorem dX8_push_80 : decode cX8_push 80 = .ok (.iinc 1 1, 3) := by decide +kernel
theorem dX8_push_83 : decode cX8_push 83 = .ok (.goto (-31), 3) := by decide +kernel
theorem dX8_push_86 : decode cX8_push 86 = .ok (.aload_n 0, 1) := by decide +kernel
theorem dX8_push_87 : decode cX8_push 87 = .ok (.dup, 1) := by decide +kernel
theorem dX8_push_88 : decode cX8_push 88 = .ok (.getfield 36, 3) := by decide +kernel
theorem dX8_push_91 : decode cX8_push 91 = .ok (.iconst 1, 1) := by decide +kernel
theorem dX8_push_92 : decode cX8_push 92 = .ok (.iadd, 1) := by decide +kernel
theorem dX8_push_93 : decode cX8_push 93 = .ok (.putfield 36, 3) := by decide +kernel
theorem dX8_push_96 : decode cX8_push 96 = .ok (.return_, 1) := by decide +kernel
set_option maxRecDepth 20000 in
theorem ggX8_recorded_X8_push : GoodIn wsX8_recorded wsX8_push := goodIn_r _ [5, 6, 7, 8, 9, 10, 11, 12, 13, 14, 15, 16, 17, 18, 19, 20] (by decide +kernel) (by decide +kernel)
set_option maxRecDepth 20000 in
theorem gX8_recorded_X8_push : GoodIn wsX8_recorded (wsV RX8 40 RX8 yX8_push wsX8_push) := goodIn_app (goodIn_of _ (by decide +kernel)) ggX8_recorded_X8_push
theorem dX8_recorded_0 : decode cX8_recorded 0 = .ok (.iload_n 1, 1) := by decide +kernel
theorem dX8_recorded_1 : decode cX8_recorded 1 = .ok (.ifCond .lt 7, 3) := by decide +kernel
theorem dX8_recorded_4 : decode cX8_recorded 4 = .ok (.aload_n 0, 1) := by decide +kernel
theorem dX8_recorded_5 : decode cX8_recorded 5 = .ok (.invokevirtual 40, 3) := by decide +kernel
theorem dX8_recorded_8 : decode cX8_recorded 8 = .ok (.iload_n 1, 1) := by decide +kernel
theorem dX8_recorded_9 : decode cX8_recorded 9 = .ok (.ireturn, 1) := by decide +kernel
theorem dX8_undo_0 : decode cX8_undo 0 = .ok (.aload_n 0, 1) := by decide +kernel
theorem dX8_undo_1 : decode cX8_undo 1 = .ok (.getfield 36, 3) := by decide +kernel
theorem dX8_undo_4 : decode cX8_undo 4 = .ok (.ifCond .ne 6, 3) := by decide +kernel
theorem dX8_undo_7 : decode cX8_undo 7 = .ok (.bipush (-5), 2) := by decide +kernel
theorem dX8_undo_9 : decode cX8_undo 9 = .ok (.ireturn, 1) := by decide +kernel
theorem dX8_undo_10 : decode cX8_undo 10 = .ok (.aload_n 0, 1) := by decide +kernel
theorem dX8_undo_11 : decode cX8_undo 11 = .ok (.dup, 1) := by decide +kernel
theorem dX8_undo_12 : decode cX8_undo 12 = .ok (.getfield 36, 3) := by decide +kernel
theorem dX8_undo_15 : decode cX8_undo 15 = .ok (.iconst 1, 1) := by decide +kernel
theorem dX8_undo_16 : decode cX8_undo 16 = .ok (.isub, 1) := by decide +kernel
theorem dX8_undo_17 : decode cX8_undo 17 = .ok (.putfield 36, 3) := by decide +kernel
theorem dX8_undo_20 : decode cX8_undo 20 = .ok (.iconst 0, 1) := by decide +kernel
theorem dX8_undo_21 : decode cX8_undo 21 = .ok (.istore_n 1, 1) := by decide +kernel
theorem dX8_undo_22 : decode cX8_undo 22 = .ok (.iload_n 1, 1) := by decide +kernel
theorem dX8_undo_23 : decode cX8_undo 23 = .ok (.sipush 288, 3) := by decide +kernel
theorem dX8_undo_26 : decode cX8_undo 26 = .ok (.if_icmp .ge 30, 3) := by decide +kernel
theorem dX8_undo_29 : decode cX8_undo 29 = .ok (.aload_n 0, 1) := by decide +kernel
theorem dX8_undo_30 : decode cX8_undo 30 = .ok (.getfield 7, 3) := by decide +kernel
theorem dX8_undo_33 : decode cX8_undo 33 = .ok (.iload_n 1, 1) := by decide +kernel
theorem dX8_undo_34 : decode cX8_undo 34 = .ok (.aload_n 0, 1) := by decide +kernel
theorem dX8_undo_35 : decode cX8_undo 35 = .ok (.getfield 16, 3) := by decide +kernel
theorem dX8_undo_38 : decode cX8_undo 38 = .ok (.aload_n 0, 1) := by decide +kernel
theorem dX8_undo_39 : decode cX8_undo 39 = .ok (.getfield 36, 3) := by decide +kernel
theorem dX8_undo_42 : decode cX8_undo 42 = .ok (.sipush 288, 3) := by decide +kernel
theorem dX8_undo_45 : decode cX8_undo 45 = .ok (.imul, 1) := by decide +kernel
theorem dX8_undo_46 : decode cX8_undo 46 = .ok (.iload_n 1, 1) := by decide +kernel
theorem dX8_undo_47 : decode cX8_undo 47 = .ok (.iadd, 1) := by decide +kernel
theorem dX8_undo_48 : decode cX8_undo 48 = .ok (.iaload, 1) := by decide +kernel
theorem dX8_undo_49 : decode cX8_undo 49 = .ok (.iastore, 1) := by decide +kernel
theorem dX8_undo_50 : decode cX8_undo 50 = .ok (.iinc 1 1, 3) := by decide +kernel
theorem dX8_undo_53 : decode cX8_undo 53 = .ok (.goto (-31), 3) := by decide +kernel
theorem dX8_undo_56 : decode cX8_undo 56 = .ok (.aload_n 0, 1) := by decide +kernel
theorem dX8_undo_57 : decode cX8_undo 57 = .ok (.getfield 36, 3) := by decide +kernel
theorem dX8_undo_60 : decode cX8_undo 60 = .ok (.ireturn, 1) := by decide +kernel
set_option maxRecDepth 20000 in
theorem ggX8_isSlot_X8_within : GoodIn wsX8_isSlot wsX8_within := goodIn_r _ [4] (by decide +kernel) (by decide +kernel)
set_option maxRecDepth 20000 in
theorem gX8_isSlot_X8_within : GoodIn wsX8_isSlot (va_wsS RX8 32 yX8_within wsX8_within) := goodIn_app (goodIn_of _ (by decide +kernel)) ggX8_isSlot_X8_within
theorem dX8_isSlot_0 : decode cX8_isSlot 0 = .ok (.iload_n 0, 1) := by decide +kernel
theorem dX8_isSlot_1 : decode cX8_isSlot 1 = .ok (.iconst 0, 1) := by decide +kernel
theorem dX8_isSlot_2 : decode cX8_isSlot 2 = .ok (.iconst 1, 1) := by decide +kernel
theorem dX8_isSlot_3 : decode cX8_isSlot 3 = .ok (.invokestatic 32, 3) := by decide +kernel
theorem dX8_isSlot_6 : decode cX8_isSlot 6 = .ok (.ireturn, 1) := by decide +kernel
set_option maxRecDepth 20000 in
theorem ggX8_save_X8_isSlot : GoodIn wsX8_save wsX8_isSlot := goodIn_r _ [7, 8, 9, 6, 10] (by decide +kernel) (by decide +kernel)
set_option maxRecDepth 20000 in
theorem gX8_save_X8_isSlot : GoodIn wsX8_save (va_wsS RX8 43 yX8_isSlot wsX8_isSlot) := goodIn_app (goodIn_of _ (by decide +kernel)) ggX8_save_X8_isSlot
theorem dX8_save_0 : decode cX8_save 0 = .ok (.iload_n 1, 1) := by decide +kernel
theorem dX8_save_1 : decode cX8_save 1 = .ok (.invokestatic 43, 3) := by decide +kernel
theorem dX8_save_4 : decode cX8_save 4 = .ok (.ifCond .ne 6, 3) := by decide +kernel
theorem dX8_save_7 : decode cX8_save 7 = .ok (.bipush (-2), 2) := by decide +kernel
theorem dX8_save_9 : decode cX8_save 9 = .ok (.ireturn, 1) := by decide +kernel
theorem dX8_save_10 : decode cX8_save 10 = .ok (.iconst 0, 1) := by decide +kernel
theorem dX8_save_11 : decode cX8_save 11 = .ok (.istore_n 2, 1) := by decide +kernel
theorem dX8_save_12 : decode cX8_save 12 = .ok (.iload_n 2, 1) := by decide +kernel
theorem dX8_save_13 : decode cX8_save 13 = .ok (.sipush 288, 3) := by decide +kernel
theorem dX8_save_16 : decode cX8_save 16 = .ok (.if_icmp .ge 27, 3) := by decide +kernel
theorem dX8_save_19 : decode cX8_save 19 = .ok (.aload_n 0, 1) := by decide +kernel
theorem dX8_save_20 : decode cX8_save 20 = .ok (.getfield 19, 3) := by decide +kernel
theorem dX8_save_23 : decode cX8_save 23 = .ok (.iload_n 1, 1) := by decide +kernel
theorem dX8_save_24 : decode cX8_save 24 = .ok (.sipush 288, 3) := by decide +kernel
theorem dX8_save_27 : decode cX8_save 27 = .ok (.imul, 1) := by decide +kernel
theorem dX8_save_28 : decode cX8_save 28 = .ok (.iload_n 2, 1) := by decide +kernel
theorem dX8_save_29 : decode cX8_save 29 = .ok (.iadd, 1) := by decide +kernel
theorem dX8_save_30 : decode cX8_save 30 = .ok (.aload_n 0, 1) := by decide +kernel
theorem dX8_save_31 : decode cX8_save 31 = .ok (.getfield 7, 3) := by decide +kernel
theorem dX8_save_34 : decode cX8_save 34 = .ok (.iload_n 2, 1) := by decide +kernel
theorem dX8_save_35 : decode cX8_save 35 = .ok (.iaload, 1) := by decide +kernel
theorem dX8_save_36 : decode cX8_save 36 = .ok (.iastore, 1) := by decide +kernel
theorem dX8_save_37 : decode cX8_save 37 = .ok (.iinc 2 1, 3) := by decide +kernel
theorem dX8_save_40 : decode cX8_save 40 = .ok (.goto (-28), 3) := by decide +kernel
theorem dX8_save_43 : decode cX8_save 43 = .ok (.aload_n 0, 1) := by decide +kernel
theorem dX8_save_44 : decode cX8_save 44 = .ok (.getfield 22, 3) := by decide +kernel
theorem dX8_save_47 : decode cX8_save 47 = .ok (.iload_n 1, 1) := by decide +kernel
theorem dX8_save_48 : decode cX8_save 48 = .ok (.iconst 1, 1) := by decide +kernel
theorem dX8_save_49 : decode cX8_save 49 = .ok (.iastore, 1) := by decide +kernel
theorem dX8_save_50 : decode cX8_save 50 = .ok (.aload_n 0, 1) := by decide +kernel
theorem dX8_save_51 : decode cX8_save 51 = .ok (.getfield 7, 3) := by decide +kernel
theorem dX8_save_54 : decode cX8_save 54 = .ok (.bipush 8, 2) := by decide +kernel
theorem dX8_save_56 : decode cX8_save 56 = .ok (.iaload, 1) := by decide +kernel
theorem dX8_save_57 : decode cX8_save 57 = .ok (.ireturn, 1) := by decide +kernel
set_option maxRecDepth 20000 in
theorem ggX8_restore_X8_isSlot : GoodIn wsX8_restore wsX8_isSlot := goodIn_r _ [7, 8, 9, 6, 10] (by decide +kernel) (by decide +kernel)
set_option maxRecDepth 20000 in
theorem gX8_restore_X8_isSlot : GoodIn wsX8_restore (va_wsS RX8 43 yX8_isSlot wsX8_isSlot) := goodIn_app (goodIn_of _ (by decide +kernel)) ggX8_restore_X8_isSlot
set_option maxRecDepth 20000 in
theorem ggX8_restore_X8_putAside : GoodIn wsX8_restore wsX8_putAside := goodIn_r _ [14, 15, 2, 22, 23, 24, 25, 26, 27, 28, 29, 30, 31, 32, 33] (by decide +kernel) (by decide +kernel)
set_option maxRecDepth 20000 in
theorem gX8_restore_X8_putAside : GoodIn wsX8_restore (wsV RX8 47 RX8 yX8_putAside wsX8_putAside) := goodIn_app (goodIn_of _ (by decide +kernel)) ggX8_restore_X8_putAside
set_option maxRecDepth 20000 in
theorem ggX8_restore_X8_push : GoodIn wsX8_restore wsX8_push := goodIn_r _ [19, 20, 21, 15, 22, 23, 24, 25, 26, 27, 28, 29, 30, 31, 32, 33] (by decide +kernel) (by decide +kernel)
set_option maxRecDepth 20000 in
theorem gX8_restore_X8_push : GoodIn wsX8_restore (wsV RX8 40 RX8 yX8_push wsX8_push) := goodIn_app (goodIn_of _ (by decide +kernel)) ggX8_restore_X8_push
theorem dX8_restore_0 : decode cX8_restore 0 = .ok (.iload_n 1, 1) := by decide +kernel
theorem dX8_restore_1 : decode cX8_restore 1 = .ok (.invokestatic 43, 3) := by decide +kernel
theorem dX8_restore_4 : decode cX8_restore 4 = .ok (.ifCond .ne 6, 3) := by decide +kernel
theorem dX8_restore_7 : decode cX8_restore 7 = .ok (.bipush (-2), 2) := by decide +kernel
theorem dX8_restore_9 : decode cX8_restore 9 = .ok (.ireturn, 1) := by decide +kernel
theorem dX8_restore_10 : decode cX8_restore 10 = .ok (.aload_n 0, 1) := by decide +kernel
theorem dX8_restore_11 : decode cX8_restore 11 = .ok (.getfield 22, 3) := by decide +kernel
theorem dX8_restore_14 : decode cX8_restore 14 = .ok (.iload_n 1, 1) := by decide +kernel
theorem dX8_restore_15 : decode cX8_restore 15 = .ok (.iaload, 1) := by decide +kernel
theorem dX8_restore_16 : decode cX8_restore 16 = .ok (.ifCond .ne 6, 3) := by decide +kernel
theorem dX8_restore_19 : decode cX8_restore 19 = .ok (.bipush (-5), 2) := by decide +kernel
theorem dX8_restore_21 : decode cX8_restore 21 = .ok (.ireturn, 1) := by decide +kernel
theorem dX8_restore_22 : decode cX8_restore 22 = .ok (.aload_n 0, 1) := by decide +kernel
theorem dX8_restore_23 : decode cX8_restore 23 = .ok (.invokevirtual 47, 3) := by decide +kernel
theorem dX8_restore_26 : decode cX8_restore 26 = .ok (.aload_n 0, 1) := by decide +kernel
theorem dX8_restore_27 : decode cX8_restore 27 = .ok (.invokevirtual 40, 3) := by decide +kernel
theorem dX8_restore_30 : decode cX8_restore 30 = .ok (.iconst 0, 1) := by decide +kernel
theorem dX8_restore_31 : decode cX8_restore 31 = .ok (.istore_n 2, 1) := by decide +kernel
theorem dX8_restore_32 : decode cX8_restore 32 = .ok (.iload_n 2, 1) := by decide +kernel
theorem dX8_restore_33 : decode cX8_restore 33 = .ok (.sipush 288, 3) := by decide +kernel
theorem dX8_restore_36 : decode cX8_restore 36 = .ok (.if_icmp .ge 27, 3) := by decide +kernel
theorem dX8_restore_39 : decode cX8_restore 39 = .ok (.aload_n 0, 1) := by decide +kernel
theorem dX8_restore_40 : decode cX8_restore 40 = .ok (.getfield 7, 3) := by decide +kernel
theorem dX8_restore_43 : decode cX8_restore 43 = .ok (.iload_n 2, 1) := by decide +kernel
theorem dX8_restore_44 : decode cX8_restore 44 = .ok (.aload_n 0, 1) := by decide +kernel
theorem dX8_restore_45 : decode cX8_restore 45 = .ok (.getfield 19, 3) := by decide +kernel
theorem dX8_restore_48 : decode cX8_restore 48 = .ok (.iload_n 1, 1) := by decide +kernel
theorem dX8_restore_49 : decode cX8_restore 49 = .ok (.sipush 288, 3) := by decide +kernel
theorem dX8_restore_52 : decode cX8_restore 52 = .ok (.imul, 1) := by decide +kernel
theorem dX8_restore_53 : decode cX8_restore 53 = .ok (.iload_n 2, 1) := by decide +kernel
theorem dX8_restore_54 : decode cX8_restore 54 = .ok (.iadd, 1) := by decide +kernel
theorem dX8_restore_55 : decode cX8_restore 55 = .ok (.iaload, 1) := by decide +kernel
theorem dX8_restore_56 : decode cX8_restore 56 = .ok (.iastore, 1) := by decide +kernel
theorem dX8_restore_57 : decode cX8_restore 57 = .ok (.iinc 2 1, 3) := by decide +kernel
theorem dX8_restore_60 : decode cX8_restore 60 = .ok (.goto (-28), 3) := by decide +kernel
theorem dX8_restore_63 : decode cX8_restore 63 = .ok (.aload_n 0, 1) := by decide +kernel
theorem dX8_restore_64 : decode cX8_restore 64 = .ok (.getfield 7, 3) := by decide +kernel
theorem dX8_restore_67 : decode cX8_restore 67 = .ok (.bipush 8, 2) := by decide +kernel
theorem dX8_restore_69 : decode cX8_restore 69 = .ok (.iaload, 1) := by decide +kernel
theorem dX8_restore_70 : decode cX8_restore 70 = .ok (.ireturn, 1) := by decide +kernel
theorem dX8_owedFor_0 : decode cX8_owedFor 0 = .ok (.aload_n 0, 1) := by decide +kernel
theorem dX8_owedFor_1 : decode cX8_owedFor 1 = .ok (.getfield 7, 3) := by decide +kernel
theorem dX8_owedFor_4 : decode cX8_owedFor 4 = .ok (.bipush 7, 2) := by decide +kernel
theorem dX8_owedFor_6 : decode cX8_owedFor 6 = .ok (.iaload, 1) := by decide +kernel
theorem dX8_owedFor_7 : decode cX8_owedFor 7 = .ok (.aload_n 0, 1) := by decide +kernel
theorem dX8_owedFor_8 : decode cX8_owedFor 8 = .ok (.getfield 7, 3) := by decide +kernel
theorem dX8_owedFor_11 : decode cX8_owedFor 11 = .ok (.sipush 218, 3) := by decide +kernel
theorem dX8_owedFor_14 : decode cX8_owedFor 14 = .ok (.iconst 2, 1) := by decide +kernel
theorem dX8_owedFor_15 : decode cX8_owedFor 15 = .ok (.iload_n 1, 1) := by decide +kernel
theorem dX8_owedFor_16 : decode cX8_owedFor 16 = .ok (.imul, 1) := by decide +kernel
theorem dX8_owedFor_17 : decode cX8_owedFor 17 = .ok (.iadd, 1) := by decide +kernel
theorem dX8_owedFor_18 : decode cX8_owedFor 18 = .ok (.iconst 1, 1) := by decide +kernel
theorem dX8_owedFor_19 : decode cX8_owedFor 19 = .ok (.iadd, 1) := by decide +kernel
theorem dX8_owedFor_20 : decode cX8_owedFor 20 = .ok (.iaload, 1) := by decide +kernel
theorem dX8_owedFor_21 : decode cX8_owedFor 21 = .ok (.isub, 1) := by decide +kernel
theorem dX8_owedFor_22 : decode cX8_owedFor 22 = .ok (.ireturn, 1) := by decide +kernel
theorem dX8_countLapse_0 : decode cX8_countLapse 0 = .ok (.aload_n 0, 1) := by decide +kernel
theorem dX8_countLapse_1 : decode cX8_countLapse 1 = .ok (.getfield 7, 3) := by decide +kernel
theorem dX8_countLapse_4 : decode cX8_countLapse 4 = .ok (.sipush 200, 3) := by decide +kernel
theorem dX8_countLapse_7 : decode cX8_countLapse 7 = .ok (.iconst 3, 1) := by decide +kernel
theorem dX8_countLapse_8 : decode cX8_countLapse 8 = .ok (.iload_n 1, 1) := by decide +kernel
theorem dX8_countLapse_9 : decode cX8_countLapse 9 = .ok (.imul, 1) := by decide +kernel
theorem dX8_countLapse_10 : decode cX8_countLapse 10 = .ok (.iadd, 1) := by decide +kernel
theorem dX8_countLapse_11 : decode cX8_countLapse 11 = .ok (.iconst 1, 1) := by decide +kernel
theorem dX8_countLapse_12 : decode cX8_countLapse 12 = .ok (.iadd, 1) := by decide +kernel
theorem dX8_countLapse_13 : decode cX8_countLapse 13 = .ok (.dup2, 1) := by decide +kernel
theorem dX8_countLapse_14 : decode cX8_countLapse 14 = .ok (.iaload, 1) := by decide +kernel
theorem dX8_countLapse_15 : decode cX8_countLapse 15 = .ok (.iconst 1, 1) := by decide +kernel
theorem dX8_countLapse_16 : decode cX8_countLapse 16 = .ok (.iadd, 1) := by decide +kernel
theorem dX8_countLapse_17 : decode cX8_countLapse 17 = .ok (.iastore, 1) := by decide +kernel
theorem dX8_countLapse_18 : decode cX8_countLapse 18 = .ok (.aload_n 0, 1) := by decide +kernel
theorem dX8_countLapse_19 : decode cX8_countLapse 19 = .ok (.getfield 7, 3) := by decide +kernel
theorem dX8_countLapse_22 : decode cX8_countLapse 22 = .ok (.bipush 11, 2) := by decide +kernel
theorem dX8_countLapse_24 : decode cX8_countLapse 24 = .ok (.dup2, 1) := by decide +kernel
theorem dX8_countLapse_25 : decode cX8_countLapse 25 = .ok (.iaload, 1) := by decide +kernel
theorem dX8_countLapse_26 : decode cX8_countLapse 26 = .ok (.iconst 1, 1) := by decide +kernel
theorem dX8_countLapse_27 : decode cX8_countLapse 27 = .ok (.iadd, 1) := by decide +kernel
theorem dX8_countLapse_28 : decode cX8_countLapse 28 = .ok (.iastore, 1) := by decide +kernel
theorem dX8_countLapse_29 : decode cX8_countLapse 29 = .ok (.return_, 1) := by decide +kernel
set_option maxRecDepth 20000 in
theorem ggX8_owe_X8_countLapse : GoodIn wsX8_owe wsX8_countLapse := goodIn_r _ [6, 1, 7, 8, 9, 10, 11, 12, 13, 14, 15, 16, 17, 18] (by decide +kernel) (by decide +kernel)
set_option maxRecDepth 20000 in
theorem gX8_owe_X8_countLapse : GoodIn wsX8_owe (wsV RX8 50 RX8 yX8_countLapse wsX8_countLapse) := goodIn_app (goodIn_of _ (by decide +kernel)) ggX8_owe_X8_countLapse
theorem dX8_owe_0 : decode cX8_owe 0 = .ok (.aload_n 0, 1) := by decide +kernel
theorem dX8_owe_1 : decode cX8_owe 1 = .ok (.getfield 7, 3) := by decide +kernel
theorem dX8_owe_4 : decode cX8_owe 4 = .ok (.bipush 16, 2) := by decide +kernel
theorem dX8_owe_6 : decode cX8_owe 6 = .ok (.iconst 1, 1) := by decide +kernel
theorem dX8_owe_7 : decode cX8_owe 7 = .ok (.iastore, 1) := by decide +kernel
theorem dX8_owe_8 : decode cX8_owe 8 = .ok (.aload_n 0, 1) := by decide +kernel
theorem dX8_owe_9 : decode cX8_owe 9 = .ok (.getfield 7, 3) := by decide +kernel
theorem dX8_owe_12 : decode cX8_owe 12 = .ok (.bipush 17, 2) := by decide +kernel
theorem dX8_owe_14 : decode cX8_owe 14 = .ok (.iaload, 1) := by decide +kernel
theorem dX8_owe_15 : decode cX8_owe 15 = .ok (.bipush 8, 2) := by decide +kernel
theorem dX8_owe_17 : decode cX8_owe 17 = .ok (.if_icmp .ne 11, 3) := by decide +kernel
theorem dX8_owe_20 : decode cX8_owe 20 = .ok (.aload_n 0, 1) := by decide +kernel
theorem dX8_owe_21 : decode cX8_owe 21 = .ok (.iload_n 1, 1) := by decide +kernel
theorem dX8_owe_22 : decode cX8_owe 22 = .ok (.invokevirtual 50, 3) := by decide +kernel
theorem dX8_owe_25 : decode cX8_owe 25 = .ok (.goto 60, 3) := by decide +kernel
theorem dX8_owe_28 : decode cX8_owe 28 = .ok (.aload_n 0, 1) := by decide +kernel
theorem dX8_owe_29 : decode cX8_owe 29 = .ok (.getfield 7, 3) := by decide +kernel
theorem dX8_owe_32 : decode cX8_owe 32 = .ok (.sipush 218, 3) := by decide +kernel
theorem dX8_owe_35 : decode cX8_owe 35 = .ok (.iconst 2, 1) := by decide +kernel
theorem dX8_owe_36 : decode cX8_owe 36 = .ok (.aload_n 0, 1) := by decide +kernel
theorem dX8_owe_37 : decode cX8_owe 37 = .ok (.getfield 7, 3) := by decide +kernel
theorem dX8_owe_40 : decode cX8_owe 40 = .ok (.bipush 17, 2) := by decide +kernel
theorem dX8_owe_42 : decode cX8_owe 42 = .ok (.iaload, 1) := by decide +kernel
theorem dX8_owe_43 : decode cX8_owe 43 = .ok (.imul, 1) := by decide +kernel
theorem dX8_owe_44 : decode cX8_owe 44 = .ok (.iadd, 1) := by decide +kernel
theorem dX8_owe_45 : decode cX8_owe 45 = .ok (.iload_n 1, 1) := by decide +kernel
theorem dX8_owe_46 : decode cX8_owe 46 = .ok (.iastore, 1) := by decide +kernel
theorem dX8_owe_47 : decode cX8_owe 47 = .ok (.aload_n 0, 1) := by decide +kernel
theorem dX8_owe_48 : decode cX8_owe 48 = .ok (.getfield 7, 3) := by decide +kernel
theorem dX8_owe_51 : decode cX8_owe 51 = .ok (.sipush 218, 3) := by decide +kernel
theorem dX8_owe_54 : decode cX8_owe 54 = .ok (.iconst 2, 1) := by decide +kernel
theorem dX8_owe_55 : decode cX8_owe 55 = .ok (.aload_n 0, 1) := by decide +kernel
theorem dX8_owe_56 : decode cX8_owe 56 = .ok (.getfield 7, 3) := by decide +kernel
theorem dX8_owe_59 : decode cX8_owe 59 = .ok (.bipush 17, 2) := by decide +kernel
theorem dX8_owe_61 : decode cX8_owe 61 = .ok (.iaload, 1) := by decide +kernel
theorem dX8_owe_62 : decode cX8_owe 62 = .ok (.imul, 1) := by decide +kernel
theorem dX8_owe_63 : decode cX8_owe 63 = .ok (.iadd, 1) := by decide +kernel
theorem dX8_owe_64 : decode cX8_owe 64 = .ok (.iconst 1, 1) := by decide +kernel
theorem dX8_owe_65 : decode cX8_owe 65 = .ok (.iadd, 1) := by decide +kernel
theorem dX8_owe_66 : decode cX8_owe 66 = .ok (.aload_n 0, 1) := by decide +kernel
theorem dX8_owe_67 : decode cX8_owe 67 = .ok (.getfield 7, 3) := by decide +kernel
theorem dX8_owe_70 : decode cX8_owe 70 = .ok (.bipush 7, 2) := by decide +kernel
theorem dX8_owe_72 : decode cX8_owe 72 = .ok (.iaload, 1) := by decide +kernel
theorem dX8_owe_73 : decode cX8_owe 73 = .ok (.iastore, 1) := by decide +kernel
theorem dX8_owe_74 : decode cX8_owe 74 = .ok (.aload_n 0, 1) := by decide +kernel
theorem dX8_owe_75 : decode cX8_owe 75 = .ok (.getfield 7, 3) := by decide +kernel
theorem dX8_owe_78 : decode cX8_owe 78 = .ok (.bipush 17, 2) := by decide +kernel
theorem dX8_owe_80 : decode cX8_owe 80 = .ok (.dup2, 1) := by decide +kernel
theorem dX8_owe_81 : decode cX8_owe 81 = .ok (.iaload, 1) := by decide +kernel
theorem dX8_owe_82 : decode cX8_owe 82 = .ok (.iconst 1, 1) := by decide +kernel
theorem dX8_owe_83 : decode cX8_owe 83 = .ok (.iadd, 1) := by decide +kernel
theorem dX8_owe_84 : decode cX8_owe 84 = .ok (.iastore, 1) := by decide +kernel
theorem dX8_owe_85 : decode cX8_owe 85 = .ok (.return_, 1) := by decide +kernel
theorem dX8_drop_0 : decode cX8_drop 0 = .ok (.aload_n 0, 1) := by decide +kernel
theorem dX8_drop_1 : decode cX8_drop 1 = .ok (.getfield 7, 3) := by decide +kernel
theorem dX8_drop_4 : decode cX8_drop 4 = .ok (.bipush 17, 2) := by decide +kernel
theorem dX8_drop_6 : decode cX8_drop 6 = .ok (.dup2, 1) := by decide +kernel
theorem dX8_drop_7 : decode cX8_drop 7 = .ok (.iaload, 1) := by decide +kernel
theorem dX8_drop_8 : decode cX8_drop 8 = .ok (.iconst 1, 1) := by decide +kernel
theorem dX8_drop_9 : decode cX8_drop 9 = .ok (.isub, 1) := by decide +kernel
theorem dX8_drop_10 : decode cX8_drop 10 = .ok (.iastore, 1) := by decide +kernel
theorem dX8_drop_11 : decode cX8_drop 11 = .ok (.sipush 218, 3) := by decide +kernel
theorem dX8_drop_14 : decode cX8_drop 14 = .ok (.iconst 2, 1) := by decide +kernel
theorem dX8_drop_15 : decode cX8_drop 15 = .ok (.iload_n 1, 1) := by decide +kernel
theorem dX8_drop_16 : decode cX8_drop 16 = .ok (.imul, 1) := by decide +kernel
theorem dX8_drop_17 : decode cX8_drop 17 = .ok (.iadd, 1) := by decide +kernel
theorem dX8_drop_18 : decode cX8_drop 18 = .ok (.istore_n 2, 1) := by decide +kernel
theorem dX8_drop_19 : decode cX8_drop 19 = .ok (.iload_n 2, 1) := by decide +kernel
theorem dX8_drop_20 : decode cX8_drop 20 = .ok (.sipush 218, 3) := by decide +kernel
theorem dX8_drop_23 : decode cX8_drop 23 = .ok (.iconst 2, 1) := by decide +kernel
theorem dX8_drop_24 : decode cX8_drop 24 = .ok (.aload_n 0, 1) := by decide +kernel
theorem dX8_drop_25 : decode cX8_drop 25 = .ok (.getfield 7, 3) := by decide +kernel
theorem dX8_drop_28 : decode cX8_drop 28 = .ok (.bipush 17, 2) := by decide +kernel
theorem dX8_drop_30 : decode cX8_drop 30 = .ok (.iaload, 1) := by decide +kernel
theorem dX8_drop_31 : decode cX8_drop 31 = .ok (.imul, 1) := by decide +kernel
theorem dX8_drop_32 : decode cX8_drop 32 = .ok (.iadd, 1) := by decide +kernel
theorem dX8_drop_33 : decode cX8_drop 33 = .ok (.if_icmp .ge 23, 3) := by decide +kernel
theorem dX8_drop_36 : decode cX8_drop 36 = .ok (.aload_n 0, 1) := by decide +kernel
theorem dX8_drop_37 : decode cX8_drop 37 = .ok (.getfield 7, 3) := by decide +kernel
theorem dX8_drop_40 : decode cX8_drop 40 = .ok (.iload_n 2, 1) := by decide +kernel
theorem dX8_drop_41 : decode cX8_drop 41 = .ok (.aload_n 0, 1) := by decide +kernel
theorem dX8_drop_42 : decode cX8_drop 42 = .ok (.getfield 7, 3) := by decide +kernel
theorem dX8_drop_45 : decode cX8_drop 45 = .ok (.iload_n 2, 1) := by decide +kernel
theorem dX8_drop_46 : decode cX8_drop 46 = .ok (.iconst 2, 1) := by decide +kernel
theorem dX8_drop_47 : decode cX8_drop 47 = .ok (.iadd, 1) := by decide +kernel
theorem dX8_drop_48 : decode cX8_drop 48 = .ok (.iaload, 1) := by decide +kernel
theorem dX8_drop_49 : decode cX8_drop 49 = .ok (.iastore, 1) := by decide +kernel
theorem dX8_drop_50 : decode cX8_drop 50 = .ok (.iinc 2 1, 3) := by decide +kernel
theorem dX8_drop_53 : decode cX8_drop 53 = .ok (.goto (-34), 3) := by decide +kernel
theorem dX8_drop_56 : decode cX8_drop 56 = .ok (.return_, 1) := by decide +kernel
theorem dX8_owes_0 : decode cX8_owes 0 = .ok (.iconst 0, 1) := by decide +kernel
theorem dX8_owes_1 : decode cX8_owes 1 = .ok (.istore_n 2, 1) := by decide +kernel
theorem dX8_owes_2 : decode cX8_owes 2 = .ok (.iconst 0, 1) := by decide +kernel
theorem dX8_owes_3 : decode cX8_owes 3 = .ok (.istore_n 3, 1) := by decide +kernel
theorem dX8_owes_4 : decode cX8_owes 4 = .ok (.iload_n 3, 1) := by decide +kernel
theorem dX8_owes_5 : decode cX8_owes 5 = .ok (.aload_n 0, 1) := by decide +kernel
theorem dX8_owes_6 : decode cX8_owes 6 = .ok (.getfield 7, 3) := by decide +kernel
theorem dX8_owes_9 : decode cX8_owes 9 = .ok (.bipush 17, 2) := by decide +kernel
theorem dX8_owes_11 : decode cX8_owes 11 = .ok (.iaload, 1) := by decide +kernel
theorem dX8_owes_12 : decode cX8_owes 12 = .ok (.if_icmp .ge 33, 3) := by decide +kernel
theorem dX8_owes_15 : decode cX8_owes 15 = .ok (.iload_n 2, 1) := by decide +kernel
theorem dX8_owes_16 : decode cX8_owes 16 = .ok (.aload_n 0, 1) := by decide +kernel
theorem dX8_owes_17 : decode cX8_owes 17 = .ok (.getfield 7, 3) := by decide +kernel
theorem dX8_owes_20 : decode cX8_owes 20 = .ok (.sipush 218, 3) := by decide +kernel
theorem dX8_owes_23 : decode cX8_owes 23 = .ok (.iconst 2, 1) := by decide +kernel
theorem dX8_owes_24 : decode cX8_owes 24 = .ok (.iload_n 3, 1) := by decide +kernel
theorem dX8_owes_25 : decode cX8_owes 25 = .ok (.imul, 1) := by decide +kernel
theorem dX8_owes_26 : decode cX8_owes 26 = .ok (.iadd, 1) := by decide +kernel
theorem dX8_owes_27 : decode cX8_owes 27 = .ok (.iaload, 1) := by decide +kernel
theorem dX8_owes_28 : decode cX8_owes 28 = .ok (.iload_n 1, 1) := by decide +kernel
theorem dX8_owes_29 : decode cX8_owes 29 = .ok (.if_icmp .ne 7, 3) := by decide +kernel
theorem dX8_owes_32 : decode cX8_owes 32 = .ok (.iconst 1, 1) := by decide +kernel
theorem dX8_owes_33 : decode cX8_owes 33 = .ok (.goto 4, 3) := by decide +kernel
theorem dX8_owes_36 : decode cX8_owes 36 = .ok (.iconst 0, 1) := by decide +kernel
theorem dX8_owes_37 : decode cX8_owes 37 = .ok (.iadd, 1) := by decide +kernel
theorem dX8_owes_38 : decode cX8_owes 38 = .ok (.istore_n 2, 1) := by decide +kernel
theorem dX8_owes_39 : decode cX8_owes 39 = .ok (.iinc 3 1, 3) := by decide +kernel
theorem dX8_owes_42 : decode cX8_owes 42 = .ok (.goto (-38), 3) := by decide +kernel
theorem dX8_owes_45 : decode cX8_owes 45 = .ok (.iload_n 2, 1) := by decide +kernel
theorem dX8_owes_46 : decode cX8_owes 46 = .ok (.ireturn, 1) := by decide +kernel
theorem dX8_earliest_0 : decode cX8_earliest 0 = .ok (.iconst 0, 1) := by decide +kernel
theorem dX8_earliest_1 : decode cX8_earliest 1 = .ok (.istore_n 2, 1) := by decide +kernel
theorem dX8_earliest_2 : decode cX8_earliest 2 = .ok (.iload_n 2, 1) := by decide +kernel
theorem dX8_earliest_3 : decode cX8_earliest 3 = .ok (.aload_n 0, 1) := by decide +kernel
theorem dX8_earliest_4 : decode cX8_earliest 4 = .ok (.getfield 7, 3) := by decide +kernel
theorem dX8_earliest_7 : decode cX8_earliest 7 = .ok (.bipush 17, 2) := by decide +kernel
theorem dX8_earliest_9 : decode cX8_earliest 9 = .ok (.iaload, 1) := by decide +kernel
theorem dX8_earliest_10 : decode cX8_earliest 10 = .ok (.if_icmp .ge 27, 3) := by decide +kernel
theorem dX8_earliest_13 : decode cX8_earliest 13 = .ok (.aload_n 0, 1) := by decide +kernel
theorem dX8_earliest_14 : decode cX8_earliest 14 = .ok (.getfield 7, 3) := by decide +kernel
theorem dX8_earliest_17 : decode cX8_earliest 17 = .ok (.sipush 218, 3) := by decide +kernel
theorem dX8_earliest_20 : decode cX8_earliest 20 = .ok (.iconst 2, 1) := by decide +kernel
theorem dX8_earliest_21 : decode cX8_earliest 21 = .ok (.iload_n 2, 1) := by decide +kernel
theorem dX8_earliest_22 : decode cX8_earliest 22 = .ok (.imul, 1) := by decide +kernel
theorem dX8_earliest_23 : decode cX8_earliest 23 = .ok (.iadd, 1) := by decide +kernel
theorem dX8_earliest_24 : decode cX8_earliest 24 = .ok (.iaload, 1) := by decide +kernel
theorem dX8_earliest_25 : decode cX8_earliest 25 = .ok (.iload_n 1, 1) := by decide +kernel
theorem dX8_earliest_26 : decode cX8_earliest 26 = .ok (.if_icmp .ne 5, 3) := by decide +kernel
theorem dX8_earliest_29 : decode cX8_earliest 29 = .ok (.iload_n 2, 1) := by decide +kernel
theorem dX8_earliest_30 : decode cX8_earliest 30 = .ok (.ireturn, 1) := by decide +kernel
theorem dX8_earliest_31 : decode cX8_earliest 31 = .ok (.iinc 2 1, 3) := by decide +kernel
theorem dX8_earliest_34 : decode cX8_earliest 34 = .ok (.goto (-32), 3) := by decide +kernel
theorem dX8_earliest_37 : decode cX8_earliest 37 = .ok (.bipush (-6), 2) := by decide +kernel
theorem dX8_earliest_39 : decode cX8_earliest 39 = .ok (.ireturn, 1) := by decide +kernel
set_option maxRecDepth 20000 in
theorem ggX8_end_X8_setSeat : GoodIn wsX8_end wsX8_setSeat := goodIn_r _ [6, 1, 7, 8, 9, 10, 11, 12, 13, 14, 15, 16, 17, 18] (by decide +kernel) (by decide +kernel)
set_option maxRecDepth 20000 in
theorem gX8_end_X8_setSeat : GoodIn wsX8_end (wsV RX8 28 RX8 yX8_setSeat wsX8_setSeat) := goodIn_app (goodIn_of _ (by decide +kernel)) ggX8_end_X8_setSeat
theorem dX8_end_0 : decode cX8_end 0 = .ok (.aload_n 0, 1) := by decide +kernel
theorem dX8_end_1 : decode cX8_end 1 = .ok (.getfield 7, 3) := by decide +kernel
theorem dX8_end_4 : decode cX8_end 4 = .ok (.bipush 6, 2) := by decide +kernel
theorem dX8_end_6 : decode cX8_end 6 = .ok (.iaload, 1) := by decide +kernel
theorem dX8_end_7 : decode cX8_end 7 = .ok (.istore_n 2, 1) := by decide +kernel
theorem dX8_end_8 : decode cX8_end 8 = .ok (.aload_n 0, 1) := by decide +kernel
theorem dX8_end_9 : decode cX8_end 9 = .ok (.getfield 7, 3) := by decide +kernel
theorem dX8_end_12 : decode cX8_end 12 = .ok (.bipush 6, 2) := by decide +kernel
theorem dX8_end_14 : decode cX8_end 14 = .ok (.iconst 0, 1) := by decide +kernel
theorem dX8_end_15 : decode cX8_end 15 = .ok (.iastore, 1) := by decide +kernel
theorem dX8_end_16 : decode cX8_end 16 = .ok (.aload_n 0, 1) := by decide +kernel
theorem dX8_end_17 : decode cX8_end 17 = .ok (.getfield 7, 3) := by decide +kernel
theorem dX8_end_20 : decode cX8_end 20 = .ok (.bipush 13, 2) := by decide +kernel
theorem dX8_end_22 : decode cX8_end 22 = .ok (.iconst 1, 1) := by decide +kernel
theorem dX8_end_23 : decode cX8_end 23 = .ok (.iastore, 1) := by decide +kernel
theorem dX8_end_24 : decode cX8_end 24 = .ok (.aload_n 0, 1) := by decide +kernel
theorem dX8_end_25 : decode cX8_end 25 = .ok (.getfield 7, 3) := by decide +kernel
theorem dX8_end_28 : decode cX8_end 28 = .ok (.bipush 14, 2) := by decide +kernel
theorem dX8_end_30 : decode cX8_end 30 = .ok (.aload_n 0, 1) := by decide +kernel
theorem dX8_end_31 : decode cX8_end 31 = .ok (.getfield 7, 3) := by decide +kernel
theorem dX8_end_34 : decode cX8_end 34 = .ok (.bipush 7, 2) := by decide +kernel
theorem dX8_end_36 : decode cX8_end 36 = .ok (.iaload, 1) := by decide +kernel
theorem dX8_end_37 : decode cX8_end 37 = .ok (.iastore, 1) := by decide +kernel
theorem dX8_end_38 : decode cX8_end 38 = .ok (.aload_n 0, 1) := by decide +kernel
theorem dX8_end_39 : decode cX8_end 39 = .ok (.getfield 7, 3) := by decide +kernel
theorem dX8_end_42 : decode cX8_end 42 = .ok (.bipush 15, 2) := by decide +kernel
theorem dX8_end_44 : decode cX8_end 44 = .ok (.iload_n 1, 1) := by decide +kernel
theorem dX8_end_45 : decode cX8_end 45 = .ok (.iastore, 1) := by decide +kernel
theorem dX8_end_46 : decode cX8_end 46 = .ok (.aload_n 0, 1) := by decide +kernel
theorem dX8_end_47 : decode cX8_end 47 = .ok (.getfield 7, 3) := by decide +kernel
theorem dX8_end_50 : decode cX8_end 50 = .ok (.bipush 16, 2) := by decide +kernel
theorem dX8_end_52 : decode cX8_end 52 = .ok (.iconst 0, 1) := by decide +kernel
theorem dX8_end_53 : decode cX8_end 53 = .ok (.iastore, 1) := by decide +kernel
theorem dX8_end_54 : decode cX8_end 54 = .ok (.aload_n 0, 1) := by decide +kernel
theorem dX8_end_55 : decode cX8_end 55 = .ok (.getfield 7, 3) := by decide +kernel
theorem dX8_end_58 : decode cX8_end 58 = .ok (.sipush 200, 3) := by decide +kernel
theorem dX8_end_61 : decode cX8_end 61 = .ok (.iconst 3, 1) := by decide +kernel
theorem dX8_end_62 : decode cX8_end 62 = .ok (.iload_n 1, 1) := by decide +kernel
theorem dX8_end_63 : decode cX8_end 63 = .ok (.imul, 1) := by decide +kernel
theorem dX8_end_64 : decode cX8_end 64 = .ok (.iadd, 1) := by decide +kernel
theorem dX8_end_65 : decode cX8_end 65 = .ok (.iconst 2, 1) := by decide +kernel
theorem dX8_end_66 : decode cX8_end 66 = .ok (.iadd, 1) := by decide +kernel
theorem dX8_end_67 : decode cX8_end 67 = .ok (.dup2, 1) := by decide +kernel
theorem dX8_end_68 : decode cX8_end 68 = .ok (.iaload, 1) := by decide +kernel
theorem dX8_end_69 : decode cX8_end 69 = .ok (.iconst 1, 1) := by decide +kernel
theorem dX8_end_70 : decode cX8_end 70 = .ok (.iadd, 1) := by decide +kernel
theorem dX8_end_71 : decode cX8_end 71 = .ok (.iastore, 1) := by decide +kernel
theorem dX8_end_72 : decode cX8_end 72 = .ok (.iconst 0, 1) := by decide +kernel
theorem dX8_end_73 : decode cX8_end 73 = .ok (.istore_n 3, 1) := by decide +kernel
theorem dX8_end_74 : decode cX8_end 74 = .ok (.iload_n 3, 1) := by decide +kernel
theorem dX8_end_75 : decode cX8_end 75 = .ok (.bipush 30, 2) := by decide +kernel
theorem dX8_end_77 : decode cX8_end 77 = .ok (.if_icmp .ge 16, 3) := by decide +kernel
theorem dX8_end_80 : decode cX8_end 80 = .ok (.aload_n 0, 1) := by decide +kernel
theorem dX8_end_81 : decode cX8_end 81 = .ok (.iload_n 3, 1) := by decide +kernel
theorem dX8_end_82 : decode cX8_end 82 = .ok (.iconst 4, 1) := by decide +kernel
theorem dX8_end_83 : decode cX8_end 83 = .ok (.iconst 0, 1) := by decide +kernel
theorem dX8_end_84 : decode cX8_end 84 = .ok (.invokevirtual 28, 3) := by decide +kernel
theorem dX8_end_87 : decode cX8_end 87 = .ok (.iinc 3 1, 3) := by decide +kernel
theorem dX8_end_90 : decode cX8_end 90 = .ok (.goto (-16), 3) := by decide +kernel
theorem dX8_end_93 : decode cX8_end 93 = .ok (.iload_n 2, 1) := by decide +kernel
theorem dX8_end_94 : decode cX8_end 94 = .ok (.ireturn, 1) := by decide +kernel
set_option maxRecDepth 20000 in
theorem ggX8_doEnds_X8_isPerformer : GoodIn wsX8_doEnds wsX8_isPerformer := goodIn_r _ [4, 5, 6, 3, 7] (by decide +kernel) (by decide +kernel)
set_option maxRecDepth 20000 in
theorem gX8_doEnds_X8_isPerformer : GoodIn wsX8_doEnds (va_wsS RX8 54 yX8_isPerformer wsX8_isPerformer) := goodIn_app (goodIn_of _ (by decide +kernel)) ggX8_doEnds_X8_isPerformer
set_option maxRecDepth 20000 in
theorem ggX8_doEnds_X8_end : GoodIn wsX8_doEnds wsX8_end := goodIn_r _ [11, 12, 13, 14, 15, 3, 16, 17, 18, 19, 20, 21, 22, 23, 24, 25, 26, 27, 28] (by decide +kernel) (by decide +kernel)
set_option maxRecDepth 20000 in
theorem gX8_doEnds_X8_end : GoodIn wsX8_doEnds (wsV RX8 57 RX8 yX8_end wsX8_end) := goodIn_app (goodIn_of _ (by decide +kernel)) ggX8_doEnds_X8_end
theorem dX8_doEnds_0 : decode cX8_doEnds 0 = .ok (.iload_n 1, 1) := by decide +kernel
theorem dX8_doEnds_1 : decode cX8_doEnds 1 = .ok (.invokestatic 54, 3) := by decide +kernel
theorem dX8_doEnds_4 : decode cX8_doEnds 4 = .ok (.ifCond .eq 11, 3) := by decide +kernel
theorem dX8_doEnds_7 : decode cX8_doEnds 7 = .ok (.aload_n 0, 1) := by decide +kernel
theorem dX8_doEnds_8 : decode cX8_doEnds 8 = .ok (.iload_n 1, 1) := by decide +kernel
theorem dX8_doEnds_9 : decode cX8_doEnds 9 = .ok (.invokevirtual 57, 3) := by decide +kernel
theorem dX8_doEnds_12 : decode cX8_doEnds 12 = .ok (.goto 4, 3) := by decide +kernel
theorem dX8_doEnds_15 : decode cX8_doEnds 15 = .ok (.iconst (-1), 1) := by decide +kernel
theorem dX8_doEnds_16 : decode cX8_doEnds 16 = .ok (.ireturn, 1) := by decide +kernel
set_option maxRecDepth 20000 in
theorem ggX8_countClap_X8_seat : GoodIn wsX8_countClap wsX8_seat := goodIn_r _ [6, 1, 11, 12, 13, 14, 15, 16, 17, 18, 19, 20, 21, 22] (by decide +kernel) (by decide +kernel)
set_option maxRecDepth 20000 in
theorem gX8_countClap_X8_seat : GoodIn wsX8_countClap (wsV RX8 61 RX8 yX8_seat wsX8_seat) := goodIn_app (goodIn_of _ (by decide +kernel)) ggX8_countClap_X8_seat
set_option maxRecDepth 20000 in
theorem ggX8_countClap_X8_setSeat : GoodIn wsX8_countClap wsX8_setSeat := goodIn_r _ [10, 1, 11, 12, 13, 14, 15, 16, 17, 18, 19, 20, 21, 22] (by decide +kernel) (by decide +kernel)
set_option maxRecDepth 20000 in
theorem gX8_countClap_X8_setSeat : GoodIn wsX8_countClap (wsV RX8 28 RX8 yX8_setSeat wsX8_setSeat) := goodIn_app (goodIn_of _ (by decide +kernel)) ggX8_countClap_X8_setSeat
theorem dX8_countClap_0 : decode cX8_countClap 0 = .ok (.aload_n 0, 1) := by decide +kernel
theorem dX8_countClap_1 : decode cX8_countClap 1 = .ok (.iload_n 1, 1) := by decide +kernel
theorem dX8_countClap_2 : decode cX8_countClap 2 = .ok (.iconst 3, 1) := by decide +kernel
theorem dX8_countClap_3 : decode cX8_countClap 3 = .ok (.invokevirtual 61, 3) := by decide +kernel
theorem dX8_countClap_6 : decode cX8_countClap 6 = .ok (.ifCond .ne 31, 3) := by decide +kernel
theorem dX8_countClap_9 : decode cX8_countClap 9 = .ok (.aload_n 0, 1) := by decide +kernel
theorem dX8_countClap_10 : decode cX8_countClap 10 = .ok (.getfield 7, 3) := by decide +kernel
theorem dX8_countClap_13 : decode cX8_countClap 13 = .ok (.sipush 234, 3) := by decide +kernel
theorem dX8_countClap_16 : decode cX8_countClap 16 = .ok (.aload_n 0, 1) := by decide +kernel
theorem dX8_countClap_17 : decode cX8_countClap 17 = .ok (.getfield 7, 3) := by decide +kernel
theorem dX8_countClap_20 : decode cX8_countClap 20 = .ok (.bipush 18, 2) := by decide +kernel
theorem dX8_countClap_22 : decode cX8_countClap 22 = .ok (.iaload, 1) := by decide +kernel
theorem dX8_countClap_23 : decode cX8_countClap 23 = .ok (.iadd, 1) := by decide +kernel
theorem dX8_countClap_24 : decode cX8_countClap 24 = .ok (.iload_n 1, 1) := by decide +kernel
theorem dX8_countClap_25 : decode cX8_countClap 25 = .ok (.iastore, 1) := by decide +kernel
theorem dX8_countClap_26 : decode cX8_countClap 26 = .ok (.aload_n 0, 1) := by decide +kernel
theorem dX8_countClap_27 : decode cX8_countClap 27 = .ok (.getfield 7, 3) := by decide +kernel
theorem dX8_countClap_30 : decode cX8_countClap 30 = .ok (.bipush 18, 2) := by decide +kernel
theorem dX8_countClap_32 : decode cX8_countClap 32 = .ok (.dup2, 1) := by decide +kernel
theorem dX8_countClap_33 : decode cX8_countClap 33 = .ok (.iaload, 1) := by decide +kernel
theorem dX8_countClap_34 : decode cX8_countClap 34 = .ok (.iconst 1, 1) := by decide +kernel
theorem dX8_countClap_35 : decode cX8_countClap 35 = .ok (.iadd, 1) := by decide +kernel
theorem dX8_countClap_36 : decode cX8_countClap 36 = .ok (.iastore, 1) := by decide +kernel
theorem dX8_countClap_37 : decode cX8_countClap 37 = .ok (.aload_n 0, 1) := by decide +kernel
theorem dX8_countClap_38 : decode cX8_countClap 38 = .ok (.iload_n 1, 1) := by decide +kernel
theorem dX8_countClap_39 : decode cX8_countClap 39 = .ok (.iconst 4, 1) := by decide +kernel
theorem dX8_countClap_40 : decode cX8_countClap 40 = .ok (.invokevirtual 61, 3) := by decide +kernel
theorem dX8_countClap_43 : decode cX8_countClap 43 = .ok (.ifCond .ne 41, 3) := by decide +kernel
theorem dX8_countClap_46 : decode cX8_countClap 46 = .ok (.aload_n 0, 1) := by decide +kernel
theorem dX8_countClap_47 : decode cX8_countClap 47 = .ok (.getfield 7, 3) := by decide +kernel
theorem dX8_countClap_50 : decode cX8_countClap 50 = .ok (.bipush 7, 2) := by decide +kernel
theorem dX8_countClap_52 : decode cX8_countClap 52 = .ok (.iaload, 1) := by decide +kernel
theorem dX8_countClap_53 : decode cX8_countClap 53 = .ok (.aload_n 0, 1) := by decide +kernel
theorem dX8_countClap_54 : decode cX8_countClap 54 = .ok (.getfield 7, 3) := by decide +kernel
theorem dX8_countClap_57 : decode cX8_countClap 57 = .ok (.bipush 14, 2) := by decide +kernel
theorem dX8_countClap_59 : decode cX8_countClap 59 = .ok (.iaload, 1) := by decide +kernel
theorem dX8_countClap_60 : decode cX8_countClap 60 = .ok (.isub, 1) := by decide +kernel
theorem dX8_countClap_61 : decode cX8_countClap 61 = .ok (.aload_n 0, 1) := by decide +kernel
theorem dX8_countClap_62 : decode cX8_countClap 62 = .ok (.getfield 7, 3) := by decide +kernel
theorem dX8_countClap_65 : decode cX8_countClap 65 = .ok (.iconst 3, 1) := by decide +kernel
theorem dX8_countClap_66 : decode cX8_countClap 66 = .ok (.iaload, 1) := by decide +kernel
theorem dX8_countClap_67 : decode cX8_countClap 67 = .ok (.if_icmp .gt 17, 3) := by decide +kernel
theorem dX8_countClap_70 : decode cX8_countClap 70 = .ok (.aload_n 0, 1) := by decide +kernel
theorem dX8_countClap_71 : decode cX8_countClap 71 = .ok (.iload_n 1, 1) := by decide +kernel
theorem dX8_countClap_72 : decode cX8_countClap 72 = .ok (.iconst 2, 1) := by decide +kernel
theorem dX8_countClap_73 : decode cX8_countClap 73 = .ok (.aload_n 0, 1) := by decide +kernel
theorem dX8_countClap_74 : decode cX8_countClap 74 = .ok (.iload_n 1, 1) := by decide +kernel
theorem dX8_countClap_75 : decode cX8_countClap 75 = .ok (.iconst 2, 1) := by decide +kernel
theorem dX8_countClap_76 : decode cX8_countClap 76 = .ok (.invokevirtual 61, 3) := by decide +kernel
theorem dX8_countClap_79 : decode cX8_countClap 79 = .ok (.iconst 1, 1) := by decide +kernel
theorem dX8_countClap_80 : decode cX8_countClap 80 = .ok (.iadd, 1) := by decide +kernel
theorem dX8_countClap_81 : decode cX8_countClap 81 = .ok (.invokevirtual 28, 3) := by decide +kernel
theorem dX8_countClap_84 : decode cX8_countClap 84 = .ok (.aload_n 0, 1) := by decide +kernel
theorem dX8_countClap_85 : decode cX8_countClap 85 = .ok (.iload_n 1, 1) := by decide +kernel
theorem dX8_countClap_86 : decode cX8_countClap 86 = .ok (.iconst 3, 1) := by decide +kernel
theorem dX8_countClap_87 : decode cX8_countClap 87 = .ok (.aload_n 0, 1) := by decide +kernel
theorem dX8_countClap_88 : decode cX8_countClap 88 = .ok (.iload_n 1, 1) := by decide +kernel
theorem dX8_countClap_89 : decode cX8_countClap 89 = .ok (.iconst 3, 1) := by decide +kernel
theorem dX8_countClap_90 : decode cX8_countClap 90 = .ok (.invokevirtual 61, 3) := by decide +kernel
theorem dX8_countClap_93 : decode cX8_countClap 93 = .ok (.iconst 1, 1) := by decide +kernel
theorem dX8_countClap_94 : decode cX8_countClap 94 = .ok (.iadd, 1) := by decide +kernel
theorem dX8_countClap_95 : decode cX8_countClap 95 = .ok (.invokevirtual 28, 3) := by decide +kernel
theorem dX8_countClap_98 : decode cX8_countClap 98 = .ok (.aload_n 0, 1) := by decide +kernel
theorem dX8_countClap_99 : decode cX8_countClap 99 = .ok (.iload_n 1, 1) := by decide +kernel
theorem dX8_countClap_100 : decode cX8_countClap 100 = .ok (.iconst 4, 1) := by decide +kernel
theorem dX8_countClap_101 : decode cX8_countClap 101 = .ok (.iconst 1, 1) := by decide +kernel
theorem dX8_countClap_102 : decode cX8_countClap 102 = .ok (.invokevirtual 28, 3) := by decide +kernel
theorem dX8_countClap_105 : decode cX8_countClap 105 = .ok (.aload_n 0, 1) := by decide +kernel
theorem dX8_countClap_106 : decode cX8_countClap 106 = .ok (.iload_n 1, 1) := by decide +kernel
theorem dX8_countClap_107 : decode cX8_countClap 107 = .ok (.iconst 5, 1) := by decide +kernel
theorem dX8_countClap_108 : decode cX8_countClap 108 = .ok (.aload_n 0, 1) := by decide +kernel
theorem dX8_countClap_109 : decode cX8_countClap 109 = .ok (.iload_n 1, 1) := by decide +kernel
theorem dX8_countClap_110 : decode cX8_countClap 110 = .ok (.iconst 5, 1) := by decide +kernel
theorem dX8_countClap_111 : decode cX8_countClap 111 = .ok (.invokevirtual 61, 3) := by decide +kernel
theorem dX8_countClap_114 : decode cX8_countClap 114 = .ok (.iconst 1, 1) := by decide +kernel
theorem dX8_countClap_115 : decode cX8_countClap 115 = .ok (.iadd, 1) := by decide +kernel
theorem dX8_countClap_116 : decode cX8_countClap 116 = .ok (.invokevirtual 28, 3) := by decide +kernel
theorem dX8_countClap_119 : decode cX8_countClap 119 = .ok (.aload_n 0, 1) := by decide +kernel
theorem dX8_countClap_120 : decode cX8_countClap 120 = .ok (.getfield 7, 3) := by decide +kernel
theorem dX8_countClap_123 : decode cX8_countClap 123 = .ok (.bipush 9, 2) := by decide +kernel
theorem dX8_countClap_125 : decode cX8_countClap 125 = .ok (.dup2, 1) := by decide +kernel
theorem dX8_countClap_126 : decode cX8_countClap 126 = .ok (.iaload, 1) := by decide +kernel
theorem dX8_countClap_127 : decode cX8_countClap 127 = .ok (.iconst 1, 1) := by decide +kernel
theorem dX8_countClap_128 : decode cX8_countClap 128 = .ok (.iadd, 1) := by decide +kernel
theorem dX8_countClap_129 : decode cX8_countClap 129 = .ok (.iastore, 1) := by decide +kernel
theorem dX8_countClap_130 : decode cX8_countClap 130 = .ok (.return_, 1) := by decide +kernel
set_option maxRecDepth 20000 in
theorem ggX8_doClap_X8_isSeat : GoodIn wsX8_doClap wsX8_isSeat := goodIn_r _ [5, 6, 7, 4, 8] (by decide +kernel) (by decide +kernel)
set_option maxRecDepth 20000 in
theorem gX8_doClap_X8_isSeat : GoodIn wsX8_doClap (va_wsS RX8 65 yX8_isSeat wsX8_isSeat) := goodIn_app (goodIn_of _ (by decide +kernel)) ggX8_doClap_X8_isSeat
set_option maxRecDepth 20000 in
theorem ggX8_doClap_X8_seat : GoodIn wsX8_doClap wsX8_seat := goodIn_r _ [12, 1, 29, 30, 31, 32, 33, 34, 35, 36, 37, 38, 39, 40] (by decide +kernel) (by decide +kernel)
set_option maxRecDepth 20000 in
theorem gX8_doClap_X8_seat : GoodIn wsX8_doClap (wsV RX8 61 RX8 yX8_seat wsX8_seat) := goodIn_app (goodIn_of _ (by decide +kernel)) ggX8_doClap_X8_seat
set_option maxRecDepth 20000 in
theorem ggX8_doClap_X8_countClap : GoodIn wsX8_doClap wsX8_countClap := goodIn_r _ [16, 1, 9, 10, 11, 4, 12, 17, 18, 19, 20, 29, 30, 31, 32, 33, 34, 35, 36, 37, 38, 39, 40] (by decide +kernel) (by decide +kernel)
set_option maxRecDepth 20000 in
theorem gX8_doClap_X8_countClap : GoodIn wsX8_doClap (wsV RX8 68 RX8 yX8_countClap wsX8_countClap) := goodIn_app (goodIn_of _ (by decide +kernel)) ggX8_doClap_X8_countClap
set_option maxRecDepth 20000 in
theorem ggX8_doClap_X8_owe : GoodIn wsX8_doClap wsX8_owe := goodIn_r _ [24, 1, 25, 26, 27, 4, 28, 29, 30, 31, 32, 33, 34, 35, 36, 37, 38, 39, 40] (by decide +kernel) (by decide +kernel)
set_option maxRecDepth 20000 in
theorem gX8_doClap_X8_owe : GoodIn wsX8_doClap (wsV RX8 71 RX8 yX8_owe wsX8_owe) := goodIn_app (goodIn_of _ (by decide +kernel)) ggX8_doClap_X8_owe
theorem dX8_doClap_0 : decode cX8_doClap 0 = .ok (.iload_n 1, 1) := by decide +kernel
theorem dX8_doClap_1 : decode cX8_doClap 1 = .ok (.invokestatic 65, 3) := by decide +kernel
theorem dX8_doClap_4 : decode cX8_doClap 4 = .ok (.ifCond .ne 5, 3) := by decide +kernel
theorem dX8_doClap_7 : decode cX8_doClap 7 = .ok (.iconst (-1), 1) := by decide +kernel
theorem dX8_doClap_8 : decode cX8_doClap 8 = .ok (.ireturn, 1) := by decide +kernel
theorem dX8_doClap_9 : decode cX8_doClap 9 = .ok (.aload_n 0, 1) := by decide +kernel
theorem dX8_doClap_10 : decode cX8_doClap 10 = .ok (.getfield 7, 3) := by decide +kernel
theorem dX8_doClap_13 : decode cX8_doClap 13 = .ok (.bipush 13, 2) := by decide +kernel
theorem dX8_doClap_15 : decode cX8_doClap 15 = .ok (.iaload, 1) := by decide +kernel
theorem dX8_doClap_16 : decode cX8_doClap 16 = .ok (.ifCond .ne 6, 3) := by decide +kernel
theorem dX8_doClap_19 : decode cX8_doClap 19 = .ok (.bipush (-5), 2) := by decide +kernel
theorem dX8_doClap_21 : decode cX8_doClap 21 = .ok (.ireturn, 1) := by decide +kernel
theorem dX8_doClap_22 : decode cX8_doClap 22 = .ok (.aload_n 0, 1) := by decide +kernel
theorem dX8_doClap_23 : decode cX8_doClap 23 = .ok (.getfield 7, 3) := by decide +kernel
theorem dX8_doClap_26 : decode cX8_doClap 26 = .ok (.bipush 6, 2) := by decide +kernel
theorem dX8_doClap_28 : decode cX8_doClap 28 = .ok (.iaload, 1) := by decide +kernel
theorem dX8_doClap_29 : decode cX8_doClap 29 = .ok (.bipush 10, 2) := by decide +kernel
theorem dX8_doClap_31 : decode cX8_doClap 31 = .ok (.aload_n 0, 1) := by decide +kernel
theorem dX8_doClap_32 : decode cX8_doClap 32 = .ok (.iload_n 1, 1) := by decide +kernel
theorem dX8_doClap_33 : decode cX8_doClap 33 = .ok (.iconst 0, 1) := by decide +kernel
theorem dX8_doClap_34 : decode cX8_doClap 34 = .ok (.invokevirtual 61, 3) := by decide +kernel
theorem dX8_doClap_37 : decode cX8_doClap 37 = .ok (.imul, 1) := by decide +kernel
theorem dX8_doClap_38 : decode cX8_doClap 38 = .ok (.iadd, 1) := by decide +kernel
theorem dX8_doClap_39 : decode cX8_doClap 39 = .ok (.istore_n 2, 1) := by decide +kernel
theorem dX8_doClap_40 : decode cX8_doClap 40 = .ok (.aload_n 0, 1) := by decide +kernel
theorem dX8_doClap_41 : decode cX8_doClap 41 = .ok (.getfield 7, 3) := by decide +kernel
theorem dX8_doClap_44 : decode cX8_doClap 44 = .ok (.bipush 6, 2) := by decide +kernel
theorem dX8_doClap_46 : decode cX8_doClap 46 = .ok (.iload_n 2, 1) := by decide +kernel
theorem dX8_doClap_47 : decode cX8_doClap 47 = .ok (.sipush 9999, 3) := by decide +kernel
theorem dX8_doClap_50 : decode cX8_doClap 50 = .ok (.if_icmp .le 9, 3) := by decide +kernel
theorem dX8_doClap_53 : decode cX8_doClap 53 = .ok (.sipush 9999, 3) := by decide +kernel
theorem dX8_doClap_56 : decode cX8_doClap 56 = .ok (.goto 4, 3) := by decide +kernel
theorem dX8_doClap_59 : decode cX8_doClap 59 = .ok (.iload_n 2, 1) := by decide +kernel
theorem dX8_doClap_60 : decode cX8_doClap 60 = .ok (.iastore, 1) := by decide +kernel
theorem dX8_doClap_61 : decode cX8_doClap 61 = .ok (.aload_n 0, 1) := by decide +kernel
theorem dX8_doClap_62 : decode cX8_doClap 62 = .ok (.iload_n 1, 1) := by decide +kernel
theorem dX8_doClap_63 : decode cX8_doClap 63 = .ok (.invokevirtual 68, 3) := by decide +kernel
theorem dX8_doClap_66 : decode cX8_doClap 66 = .ok (.aload_n 0, 1) := by decide +kernel
theorem dX8_doClap_67 : decode cX8_doClap 67 = .ok (.getfield 7, 3) := by decide +kernel
theorem dX8_doClap_70 : decode cX8_doClap 70 = .ok (.bipush 6, 2) := by decide +kernel
theorem dX8_doClap_72 : decode cX8_doClap 72 = .ok (.iaload, 1) := by decide +kernel
theorem dX8_doClap_73 : decode cX8_doClap 73 = .ok (.aload_n 0, 1) := by decide +kernel
theorem dX8_doClap_74 : decode cX8_doClap 74 = .ok (.getfield 7, 3) := by decide +kernel
theorem dX8_doClap_77 : decode cX8_doClap 77 = .ok (.iconst 1, 1) := by decide +kernel
theorem dX8_doClap_78 : decode cX8_doClap 78 = .ok (.iaload, 1) := by decide +kernel
theorem dX8_doClap_79 : decode cX8_doClap 79 = .ok (.if_icmp .lt 24, 3) := by decide +kernel
theorem dX8_doClap_82 : decode cX8_doClap 82 = .ok (.aload_n 0, 1) := by decide +kernel
theorem dX8_doClap_83 : decode cX8_doClap 83 = .ok (.getfield 7, 3) := by decide +kernel
theorem dX8_doClap_86 : decode cX8_doClap 86 = .ok (.bipush 16, 2) := by decide +kernel
theorem dX8_doClap_88 : decode cX8_doClap 88 = .ok (.iaload, 1) := by decide +kernel
theorem dX8_doClap_89 : decode cX8_doClap 89 = .ok (.ifCond .ne 14, 3) := by decide +kernel
theorem dX8_doClap_92 : decode cX8_doClap 92 = .ok (.aload_n 0, 1) := by decide +kernel
theorem dX8_doClap_93 : decode cX8_doClap 93 = .ok (.aload_n 0, 1) := by decide +kernel
theorem dX8_doClap_94 : decode cX8_doClap 94 = .ok (.getfield 7, 3) := by decide +kernel
theorem dX8_doClap_97 : decode cX8_doClap 97 = .ok (.bipush 15, 2) := by decide +kernel
theorem dX8_doClap_99 : decode cX8_doClap 99 = .ok (.iaload, 1) := by decide +kernel
theorem dX8_doClap_100 : decode cX8_doClap 100 = .ok (.invokevirtual 71, 3) := by decide +kernel
theorem dX8_doClap_103 : decode cX8_doClap 103 = .ok (.aload_n 0, 1) := by decide +kernel
theorem dX8_doClap_104 : decode cX8_doClap 104 = .ok (.getfield 7, 3) := by decide +kernel
theorem dX8_doClap_107 : decode cX8_doClap 107 = .ok (.bipush 6, 2) := by decide +kernel
theorem dX8_doClap_109 : decode cX8_doClap 109 = .ok (.iaload, 1) := by decide +kernel
theorem dX8_doClap_110 : decode cX8_doClap 110 = .ok (.ireturn, 1) := by decide +kernel
theorem dX8_decayed_0 : decode cX8_decayed 0 = .ok (.iload_n 1, 1) := by decide +kernel
theorem dX8_decayed_1 : decode cX8_decayed 1 = .ok (.aload_n 0, 1) := by decide +kernel
theorem dX8_decayed_2 : decode cX8_decayed 2 = .ok (.getfield 7, 3) := by decide +kernel
theorem dX8_decayed_5 : decode cX8_decayed 5 = .ok (.iconst 0, 1) := by decide +kernel
theorem dX8_decayed_6 : decode cX8_decayed 6 = .ok (.iaload, 1) := by decide +kernel
theorem dX8_decayed_7 : decode cX8_decayed 7 = .ok (.imul, 1) := by decide +kernel
theorem dX8_decayed_8 : decode cX8_decayed 8 = .ok (.bipush 100, 2) := by decide +kernel
theorem dX8_decayed_10 : decode cX8_decayed 10 = .ok (.idiv, 1) := by decide +kernel
theorem dX8_decayed_11 : decode cX8_decayed 11 = .ok (.istore_n 2, 1) := by decide +kernel
theorem dX8_decayed_12 : decode cX8_decayed 12 = .ok (.iload_n 1, 1) := by decide +kernel
theorem dX8_decayed_13 : decode cX8_decayed 13 = .ok (.ifCond .ne 7, 3) := by decide +kernel
theorem dX8_decayed_16 : decode cX8_decayed 16 = .ok (.iconst 0, 1) := by decide +kernel
theorem dX8_decayed_17 : decode cX8_decayed 17 = .ok (.goto 15, 3) := by decide +kernel
theorem dX8_decayed_20 : decode cX8_decayed 20 = .ok (.iload_n 1, 1) := by decide +kernel
theorem dX8_decayed_21 : decode cX8_decayed 21 = .ok (.iload_n 2, 1) := by decide +kernel
theorem dX8_decayed_22 : decode cX8_decayed 22 = .ok (.iconst 1, 1) := by decide +kernel
theorem dX8_decayed_23 : decode cX8_decayed 23 = .ok (.if_icmp .ge 7, 3) := by decide +kernel
theorem dX8_decayed_26 : decode cX8_decayed 26 = .ok (.iconst 1, 1) := by decide +kernel
theorem dX8_decayed_27 : decode cX8_decayed 27 = .ok (.goto 4, 3) := by decide +kernel
theorem dX8_decayed_30 : decode cX8_decayed 30 = .ok (.iload_n 2, 1) := by decide +kernel
theorem dX8_decayed_31 : decode cX8_decayed 31 = .ok (.isub, 1) := by decide +kernel
theorem dX8_decayed_32 : decode cX8_decayed 32 = .ok (.ireturn, 1) := by decide +kernel
set_option maxRecDepth 20000 in
theorem ggX8_passSecond_X8_decayed : GoodIn wsX8_passSecond wsX8_decayed := goodIn_r _ [6, 1, 19, 20, 21, 22, 23, 24, 25, 26, 27, 28, 29, 30] (by decide +kernel) (by decide +kernel)
set_option maxRecDepth 20000 in
theorem gX8_passSecond_X8_decayed : GoodIn wsX8_passSecond (wsV RX8 74 RX8 yX8_decayed wsX8_decayed) := goodIn_app (goodIn_of _ (by decide +kernel)) ggX8_passSecond_X8_decayed
set_option maxRecDepth 20000 in
theorem ggX8_passSecond_X8_owedFor : GoodIn wsX8_passSecond wsX8_owedFor := goodIn_r _ [10, 1, 19, 20, 21, 22, 23, 24, 25, 26, 27, 28, 29, 30] (by decide +kernel) (by decide +kernel)
set_option maxRecDepth 20000 in
theorem gX8_passSecond_X8_owedFor : GoodIn wsX8_passSecond (wsV RX8 77 RX8 yX8_owedFor wsX8_owedFor) := goodIn_app (goodIn_of _ (by decide +kernel)) ggX8_passSecond_X8_owedFor
set_option maxRecDepth 20000 in
theorem ggX8_passSecond_X8_countLapse : GoodIn wsX8_passSecond wsX8_countLapse := goodIn_r _ [14, 1, 19, 20, 21, 22, 23, 24, 25, 26, 27, 28, 29, 30] (by decide +kernel) (by decide +kernel)
set_option maxRecDepth 20000 in
theorem gX8_passSecond_X8_countLapse : GoodIn wsX8_passSecond (wsV RX8 50 RX8 yX8_countLapse wsX8_countLapse) := goodIn_app (goodIn_of _ (by decide +kernel)) ggX8_passSecond_X8_countLapse
set_option maxRecDepth 20000 in
theorem ggX8_passSecond_X8_drop : GoodIn wsX8_passSecond wsX8_drop := goodIn_r _ [18, 1, 19, 20, 21, 22, 23, 24, 25, 26, 27, 28, 29, 30] (by decide +kernel) (by decide +kernel)
set_option maxRecDepth 20000 in
theorem gX8_passSecond_X8_drop : GoodIn wsX8_passSecond (wsV RX8 80 RX8 yX8_drop wsX8_drop) := goodIn_app (goodIn_of _ (by decide +kernel)) ggX8_passSecond_X8_drop
theorem dX8_passSecond_0 : decode cX8_passSecond 0 = .ok (.aload_n 0, 1) := by decide +kernel
theorem dX8_passSecond_1 : decode cX8_passSecond 1 = .ok (.getfield 7, 3) := by decide +kernel
theorem dX8_passSecond_4 : decode cX8_passSecond 4 = .ok (.bipush 6, 2) := by decide +kernel
theorem dX8_passSecond_6 : decode cX8_passSecond 6 = .ok (.aload_n 0, 1) := by decide +kernel
theorem dX8_passSecond_7 : decode cX8_passSecond 7 = .ok (.aload_n 0, 1) := by decide +kernel
theorem dX8_passSecond_8 : decode cX8_passSecond 8 = .ok (.getfield 7, 3) := by decide +kernel
theorem dX8_passSecond_11 : decode cX8_passSecond 11 = .ok (.bipush 6, 2) := by decide +kernel
theorem dX8_passSecond_13 : decode cX8_passSecond 13 = .ok (.iaload, 1) := by decide +kernel
theorem dX8_passSecond_14 : decode cX8_passSecond 14 = .ok (.invokevirtual 74, 3) := by decide +kernel
theorem dX8_passSecond_17 : decode cX8_passSecond 17 = .ok (.iastore, 1) := by decide +kernel
theorem dX8_passSecond_18 : decode cX8_passSecond 18 = .ok (.aload_n 0, 1) := by decide +kernel
theorem dX8_passSecond_19 : decode cX8_passSecond 19 = .ok (.getfield 7, 3) := by decide +kernel
theorem dX8_passSecond_22 : decode cX8_passSecond 22 = .ok (.bipush 7, 2) := by decide +kernel
theorem dX8_passSecond_24 : decode cX8_passSecond 24 = .ok (.dup2, 1) := by decide +kernel
theorem dX8_passSecond_25 : decode cX8_passSecond 25 = .ok (.iaload, 1) := by decide +kernel
theorem dX8_passSecond_26 : decode cX8_passSecond 26 = .ok (.iconst 1, 1) := by decide +kernel
theorem dX8_passSecond_27 : decode cX8_passSecond 27 = .ok (.iadd, 1) := by decide +kernel
theorem dX8_passSecond_28 : decode cX8_passSecond 28 = .ok (.iastore, 1) := by decide +kernel
theorem dX8_passSecond_29 : decode cX8_passSecond 29 = .ok (.aload_n 0, 1) := by decide +kernel
theorem dX8_passSecond_30 : decode cX8_passSecond 30 = .ok (.getfield 7, 3) := by decide +kernel
theorem dX8_passSecond_33 : decode cX8_passSecond 33 = .ok (.bipush 17, 2) := by decide +kernel
theorem dX8_passSecond_35 : decode cX8_passSecond 35 = .ok (.iaload, 1) := by decide +kernel
theorem dX8_passSecond_36 : decode cX8_passSecond 36 = .ok (.iconst 1, 1) := by decide +kernel
theorem dX8_passSecond_37 : decode cX8_passSecond 37 = .ok (.isub, 1) := by decide +kernel
theorem dX8_passSecond_38 : decode cX8_passSecond 38 = .ok (.istore_n 1, 1) := by decide +kernel
theorem dX8_passSecond_39 : decode cX8_passSecond 39 = .ok (.iload_n 1, 1) := by decide +kernel
theorem dX8_passSecond_40 : decode cX8_passSecond 40 = .ok (.ifCond .lt 44, 3) := by decide +kernel
theorem dX8_passSecond_43 : decode cX8_passSecond 43 = .ok (.aload_n 0, 1) := by decide +kernel
theorem dX8_passSecond_44 : decode cX8_passSecond 44 = .ok (.iload_n 1, 1) := by decide +kernel
theorem dX8_passSecond_45 : decode cX8_passSecond 45 = .ok (.invokevirtual 77, 3) := by decide +kernel
theorem dX8_passSecond_48 : decode cX8_passSecond 48 = .ok (.aload_n 0, 1) := by decide +kernel
theorem dX8_passSecond_49 : decode cX8_passSecond 49 = .ok (.getfield 7, 3) := by decide +kernel
theorem dX8_passSecond_52 : decode cX8_passSecond 52 = .ok (.iconst 2, 1) := by decide +kernel
theorem dX8_passSecond_53 : decode cX8_passSecond 53 = .ok (.iaload, 1) := by decide +kernel
theorem dX8_passSecond_54 : decode cX8_passSecond 54 = .ok (.if_icmp .lt 24, 3) := by decide +kernel
theorem dX8_passSecond_57 : decode cX8_passSecond 57 = .ok (.aload_n 0, 1) := by decide +kernel
theorem dX8_passSecond_58 : decode cX8_passSecond 58 = .ok (.aload_n 0, 1) := by decide +kernel
theorem dX8_passSecond_59 : decode cX8_passSecond 59 = .ok (.getfield 7, 3) := by decide +kernel
theorem dX8_passSecond_62 : decode cX8_passSecond 62 = .ok (.sipush 218, 3) := by decide +kernel
theorem dX8_passSecond_65 : decode cX8_passSecond 65 = .ok (.iconst 2, 1) := by decide +kernel
theorem dX8_passSecond_66 : decode cX8_passSecond 66 = .ok (.iload_n 1, 1) := by decide +kernel
theorem dX8_passSecond_67 : decode cX8_passSecond 67 = .ok (.imul, 1) := by decide +kernel
theorem dX8_passSecond_68 : decode cX8_passSecond 68 = .ok (.iadd, 1) := by decide +kernel
theorem dX8_passSecond_69 : decode cX8_passSecond 69 = .ok (.iaload, 1) := by decide +kernel
theorem dX8_passSecond_70 : decode cX8_passSecond 70 = .ok (.invokevirtual 50, 3) := by decide +kernel
theorem dX8_passSecond_73 : decode cX8_passSecond 73 = .ok (.aload_n 0, 1) := by decide +kernel
theorem dX8_passSecond_74 : decode cX8_passSecond 74 = .ok (.iload_n 1, 1) := by decide +kernel
theorem dX8_passSecond_75 : decode cX8_passSecond 75 = .ok (.invokevirtual 80, 3) := by decide +kernel
theorem dX8_passSecond_78 : decode cX8_passSecond 78 = .ok (.iinc 1 (-1), 3) := by decide +kernel
theorem dX8_passSecond_81 : decode cX8_passSecond 81 = .ok (.goto (-42), 3) := by decide +kernel
theorem dX8_passSecond_84 : decode cX8_passSecond 84 = .ok (.return_, 1) := by decide +kernel
set_option maxRecDepth 20000 in
theorem ggX8_doPass_X8_within : GoodIn wsX8_doPass wsX8_within := goodIn_r _ [6] (by decide +kernel) (by decide +kernel)
set_option maxRecDepth 20000 in
theorem gX8_doPass_X8_within : GoodIn wsX8_doPass (va_wsS RX8 32 yX8_within wsX8_within) := goodIn_app (goodIn_of _ (by decide +kernel)) ggX8_doPass_X8_within
set_option maxRecDepth 20000 in
theorem ggX8_doPass_X8_passSecond : GoodIn wsX8_doPass wsX8_passSecond := goodIn_r _ [10, 1, 11, 12, 13, 5, 14, 15, 16, 17, 18, 19, 20, 21, 22, 23, 24, 25, 26, 27, 28, 29, 30, 31, 32, 33, 34, 35, 36, 37, 38] (by decide +kernel) (by decide +kernel)
set_option maxRecDepth 20000 in
theorem gX8_doPass_X8_passSecond : GoodIn wsX8_doPass (wsV RX8 84 RX8 yX8_passSecond wsX8_passSecond) := goodIn_app (goodIn_of _ (by decide +kernel)) ggX8_doPass_X8_passSecond
theorem dX8_doPass_0 : decode cX8_doPass 0 = .ok (.iload_n 1, 1) := by decide +kernel
theorem dX8_doPass_1 : decode cX8_doPass 1 = .ok (.iconst 1, 1) := by decide +kernel
theorem dX8_doPass_2 : decode cX8_doPass 2 = .ok (.bipush 99, 2) := by decide +kernel
theorem dX8_doPass_4 : decode cX8_doPass 4 = .ok (.invokestatic 32, 3) := by decide +kernel
theorem dX8_doPass_7 : decode cX8_doPass 7 = .ok (.ifCond .ne 6, 3) := by decide +kernel
theorem dX8_doPass_10 : decode cX8_doPass 10 = .ok (.bipush (-2), 2) := by decide +kernel
theorem dX8_doPass_12 : decode cX8_doPass 12 = .ok (.ireturn, 1) := by decide +kernel
theorem dX8_doPass_13 : decode cX8_doPass 13 = .ok (.aload_n 0, 1) := by decide +kernel
theorem dX8_doPass_14 : decode cX8_doPass 14 = .ok (.getfield 7, 3) := by decide +kernel
theorem dX8_doPass_17 : decode cX8_doPass 17 = .ok (.bipush 7, 2) := by decide +kernel
theorem dX8_doPass_19 : decode cX8_doPass 19 = .ok (.iaload, 1) := by decide +kernel
theorem dX8_doPass_20 : decode cX8_doPass 20 = .ok (.iload_n 1, 1) := by decide +kernel
theorem dX8_doPass_21 : decode cX8_doPass 21 = .ok (.iadd, 1) := by decide +kernel
theorem dX8_doPass_22 : decode cX8_doPass 22 = .ok (.ldc 83, 2) := by decide +kernel
theorem dX8_doPass_24 : decode cX8_doPass 24 = .ok (.if_icmp .le 6, 3) := by decide +kernel
theorem dX8_doPass_27 : decode cX8_doPass 27 = .ok (.bipush (-5), 2) := by decide +kernel
theorem dX8_doPass_29 : decode cX8_doPass 29 = .ok (.ireturn, 1) := by decide +kernel
theorem dX8_doPass_30 : decode cX8_doPass 30 = .ok (.iconst 0, 1) := by decide +kernel
theorem dX8_doPass_31 : decode cX8_doPass 31 = .ok (.istore_n 2, 1) := by decide +kernel
theorem dX8_doPass_32 : decode cX8_doPass 32 = .ok (.iload_n 2, 1) := by decide +kernel
theorem dX8_doPass_33 : decode cX8_doPass 33 = .ok (.iload_n 1, 1) := by decide +kernel
theorem dX8_doPass_34 : decode cX8_doPass 34 = .ok (.if_icmp .ge 13, 3) := by decide +kernel
theorem dX8_doPass_37 : decode cX8_doPass 37 = .ok (.aload_n 0, 1) := by decide +kernel
theorem dX8_doPass_38 : decode cX8_doPass 38 = .ok (.invokevirtual 84, 3) := by decide +kernel
theorem dX8_doPass_41 : decode cX8_doPass 41 = .ok (.iinc 2 1, 3) := by decide +kernel
theorem dX8_doPass_44 : decode cX8_doPass 44 = .ok (.goto (-12), 3) := by decide +kernel
theorem dX8_doPass_47 : decode cX8_doPass 47 = .ok (.aload_n 0, 1) := by decide +kernel
theorem dX8_doPass_48 : decode cX8_doPass 48 = .ok (.getfield 7, 3) := by decide +kernel
theorem dX8_doPass_51 : decode cX8_doPass 51 = .ok (.bipush 6, 2) := by decide +kernel
theorem dX8_doPass_53 : decode cX8_doPass 53 = .ok (.iaload, 1) := by decide +kernel
theorem dX8_doPass_54 : decode cX8_doPass 54 = .ok (.ireturn, 1) := by decide +kernel
set_option maxRecDepth 20000 in
theorem ggX8_doPlay_X8_isPerformer : GoodIn wsX8_doPlay wsX8_isPerformer := goodIn_r _ [5, 6, 7, 4, 8] (by decide +kernel) (by decide +kernel)
set_option maxRecDepth 20000 in
theorem gX8_doPlay_X8_isPerformer : GoodIn wsX8_doPlay (va_wsS RX8 54 yX8_isPerformer wsX8_isPerformer) := goodIn_app (goodIn_of _ (by decide +kernel)) ggX8_doPlay_X8_isPerformer
set_option maxRecDepth 20000 in
theorem ggX8_doPlay_X8_earliest : GoodIn wsX8_doPlay wsX8_earliest := goodIn_r _ [12, 1, 29, 30, 31, 32, 33, 34, 35, 36, 37, 38, 39, 40] (by decide +kernel) (by decide +kernel)
set_option maxRecDepth 20000 in
theorem gX8_doPlay_X8_earliest : GoodIn wsX8_doPlay (wsV RX8 87 RX8 yX8_earliest wsX8_earliest) := goodIn_app (goodIn_of _ (by decide +kernel)) ggX8_doPlay_X8_earliest
set_option maxRecDepth 20000 in
theorem ggX8_doPlay_X8_drop : GoodIn wsX8_doPlay wsX8_drop := goodIn_r _ [16, 1, 29, 30, 31, 32, 33, 34, 35, 36, 37, 38, 39, 40] (by decide +kernel) (by decide +kernel)
set_option maxRecDepth 20000 in
theorem gX8_doPlay_X8_drop : GoodIn wsX8_doPlay (wsV RX8 80 RX8 yX8_drop wsX8_drop) := goodIn_app (goodIn_of _ (by decide +kernel)) ggX8_doPlay_X8_drop
set_option maxRecDepth 20000 in
theorem ggX8_doPlay_X8_end : GoodIn wsX8_doPlay wsX8_end := goodIn_r _ [20, 1, 21, 22, 23, 4, 24, 29, 30, 31, 32, 33, 34, 35, 36, 37, 38, 39, 40] (by decide +kernel) (by decide +kernel)
set_option maxRecDepth 20000 in
theorem gX8_doPlay_X8_end : GoodIn wsX8_doPlay (wsV RX8 57 RX8 yX8_end wsX8_end) := goodIn_app (goodIn_of _ (by decide +kernel)) ggX8_doPlay_X8_end
set_option maxRecDepth 20000 in
theorem ggX8_doPlay_X8_owes : GoodIn wsX8_doPlay wsX8_owes := goodIn_r _ [28, 1, 29, 30, 31, 32, 33, 34, 35, 36, 37, 38, 39, 40] (by decide +kernel) (by decide +kernel)
set_option maxRecDepth 20000 in
theorem gX8_doPlay_X8_owes : GoodIn wsX8_doPlay (wsV RX8 90 RX8 yX8_owes wsX8_owes) := goodIn_app (goodIn_of _ (by decide +kernel)) ggX8_doPlay_X8_owes
theorem dX8_doPlay_0 : decode cX8_doPlay 0 = .ok (.iload_n 1, 1) := by decide +kernel
theorem dX8_doPlay_1 : decode cX8_doPlay 1 = .ok (.invokestatic 54, 3) := by decide +kernel
theorem dX8_doPlay_4 : decode cX8_doPlay 4 = .ok (.ifCond .ne 5, 3) := by decide +kernel
theorem dX8_doPlay_7 : decode cX8_doPlay 7 = .ok (.iconst (-1), 1) := by decide +kernel
theorem dX8_doPlay_8 : decode cX8_doPlay 8 = .ok (.ireturn, 1) := by decide +kernel
theorem dX8_doPlay_9 : decode cX8_doPlay 9 = .ok (.aload_n 0, 1) := by decide +kernel
theorem dX8_doPlay_10 : decode cX8_doPlay 10 = .ok (.iload_n 1, 1) := by decide +kernel
theorem dX8_doPlay_11 : decode cX8_doPlay 11 = .ok (.invokevirtual 87, 3) := by decide +kernel
theorem dX8_doPlay_14 : decode cX8_doPlay 14 = .ok (.istore_n 2, 1) := by decide +kernel
theorem dX8_doPlay_15 : decode cX8_doPlay 15 = .ok (.iload_n 2, 1) := by decide +kernel
theorem dX8_doPlay_16 : decode cX8_doPlay 16 = .ok (.bipush (-6), 2) := by decide +kernel
theorem dX8_doPlay_18 : decode cX8_doPlay 18 = .ok (.if_icmp .ne 6, 3) := by decide +kernel
theorem dX8_doPlay_21 : decode cX8_doPlay 21 = .ok (.bipush (-5), 2) := by decide +kernel
theorem dX8_doPlay_23 : decode cX8_doPlay 23 = .ok (.ireturn, 1) := by decide +kernel
theorem dX8_doPlay_24 : decode cX8_doPlay 24 = .ok (.aload_n 0, 1) := by decide +kernel
theorem dX8_doPlay_25 : decode cX8_doPlay 25 = .ok (.iload_n 2, 1) := by decide +kernel
theorem dX8_doPlay_26 : decode cX8_doPlay 26 = .ok (.invokevirtual 80, 3) := by decide +kernel
theorem dX8_doPlay_29 : decode cX8_doPlay 29 = .ok (.aload_n 0, 1) := by decide +kernel
theorem dX8_doPlay_30 : decode cX8_doPlay 30 = .ok (.getfield 7, 3) := by decide +kernel
theorem dX8_doPlay_33 : decode cX8_doPlay 33 = .ok (.sipush 200, 3) := by decide +kernel
theorem dX8_doPlay_36 : decode cX8_doPlay 36 = .ok (.iconst 3, 1) := by decide +kernel
theorem dX8_doPlay_37 : decode cX8_doPlay 37 = .ok (.iload_n 1, 1) := by decide +kernel
theorem dX8_doPlay_38 : decode cX8_doPlay 38 = .ok (.imul, 1) := by decide +kernel
theorem dX8_doPlay_39 : decode cX8_doPlay 39 = .ok (.iadd, 1) := by decide +kernel
theorem dX8_doPlay_40 : decode cX8_doPlay 40 = .ok (.iconst 0, 1) := by decide +kernel
theorem dX8_doPlay_41 : decode cX8_doPlay 41 = .ok (.iadd, 1) := by decide +kernel
theorem dX8_doPlay_42 : decode cX8_doPlay 42 = .ok (.dup2, 1) := by decide +kernel
theorem dX8_doPlay_43 : decode cX8_doPlay 43 = .ok (.iaload, 1) := by decide +kernel
theorem dX8_doPlay_44 : decode cX8_doPlay 44 = .ok (.iconst 1, 1) := by decide +kernel
theorem dX8_doPlay_45 : decode cX8_doPlay 45 = .ok (.iadd, 1) := by decide +kernel
theorem dX8_doPlay_46 : decode cX8_doPlay 46 = .ok (.iastore, 1) := by decide +kernel
theorem dX8_doPlay_47 : decode cX8_doPlay 47 = .ok (.aload_n 0, 1) := by decide +kernel
theorem dX8_doPlay_48 : decode cX8_doPlay 48 = .ok (.getfield 7, 3) := by decide +kernel
theorem dX8_doPlay_51 : decode cX8_doPlay 51 = .ok (.bipush 10, 2) := by decide +kernel
theorem dX8_doPlay_53 : decode cX8_doPlay 53 = .ok (.dup2, 1) := by decide +kernel
theorem dX8_doPlay_54 : decode cX8_doPlay 54 = .ok (.iaload, 1) := by decide +kernel
theorem dX8_doPlay_55 : decode cX8_doPlay 55 = .ok (.iconst 1, 1) := by decide +kernel
theorem dX8_doPlay_56 : decode cX8_doPlay 56 = .ok (.iadd, 1) := by decide +kernel
theorem dX8_doPlay_57 : decode cX8_doPlay 57 = .ok (.iastore, 1) := by decide +kernel
theorem dX8_doPlay_58 : decode cX8_doPlay 58 = .ok (.aload_n 0, 1) := by decide +kernel
theorem dX8_doPlay_59 : decode cX8_doPlay 59 = .ok (.iload_n 1, 1) := by decide +kernel
theorem dX8_doPlay_60 : decode cX8_doPlay 60 = .ok (.invokevirtual 57, 3) := by decide +kernel
theorem dX8_doPlay_63 : decode cX8_doPlay 63 = .ok (.istore_n 3, 1) := by decide +kernel
theorem dX8_doPlay_64 : decode cX8_doPlay 64 = .ok (.iload_n 3, 1) := by decide +kernel
theorem dX8_doPlay_65 : decode cX8_doPlay 65 = .ok (.ifCond .ge 7, 3) := by decide +kernel
theorem dX8_doPlay_68 : decode cX8_doPlay 68 = .ok (.iload_n 3, 1) := by decide +kernel
theorem dX8_doPlay_69 : decode cX8_doPlay 69 = .ok (.goto 8, 3) := by decide +kernel
theorem dX8_doPlay_72 : decode cX8_doPlay 72 = .ok (.aload_n 0, 1) := by decide +kernel
theorem dX8_doPlay_73 : decode cX8_doPlay 73 = .ok (.iload_n 1, 1) := by decide +kernel
theorem dX8_doPlay_74 : decode cX8_doPlay 74 = .ok (.invokevirtual 90, 3) := by decide +kernel
theorem dX8_doPlay_77 : decode cX8_doPlay 77 = .ok (.ireturn, 1) := by decide +kernel
theorem dX8_doCall_0 : decode cX8_doCall 0 = .ok (.aload_n 0, 1) := by decide +kernel
theorem dX8_doCall_1 : decode cX8_doCall 1 = .ok (.getfield 7, 3) := by decide +kernel
theorem dX8_doCall_4 : decode cX8_doCall 4 = .ok (.bipush 6, 2) := by decide +kernel
theorem dX8_doCall_6 : decode cX8_doCall 6 = .ok (.iaload, 1) := by decide +kernel
theorem dX8_doCall_7 : decode cX8_doCall 7 = .ok (.aload_n 0, 1) := by decide +kernel
theorem dX8_doCall_8 : decode cX8_doCall 8 = .ok (.getfield 7, 3) := by decide +kernel
theorem dX8_doCall_11 : decode cX8_doCall 11 = .ok (.iconst 5, 1) := by decide +kernel
theorem dX8_doCall_12 : decode cX8_doCall 12 = .ok (.iaload, 1) := by decide +kernel
theorem dX8_doCall_13 : decode cX8_doCall 13 = .ok (.if_icmp .ge 6, 3) := by decide +kernel
theorem dX8_doCall_16 : decode cX8_doCall 16 = .ok (.bipush (-5), 2) := by decide +kernel
theorem dX8_doCall_18 : decode cX8_doCall 18 = .ok (.ireturn, 1) := by decide +kernel
theorem dX8_doCall_19 : decode cX8_doCall 19 = .ok (.aload_n 0, 1) := by decide +kernel
theorem dX8_doCall_20 : decode cX8_doCall 20 = .ok (.getfield 7, 3) := by decide +kernel
theorem dX8_doCall_23 : decode cX8_doCall 23 = .ok (.bipush 6, 2) := by decide +kernel
theorem dX8_doCall_25 : decode cX8_doCall 25 = .ok (.dup2, 1) := by decide +kernel
theorem dX8_doCall_26 : decode cX8_doCall 26 = .ok (.iaload, 1) := by decide +kernel
theorem dX8_doCall_27 : decode cX8_doCall 27 = .ok (.iconst 2, 1) := by decide +kernel
theorem dX8_doCall_28 : decode cX8_doCall 28 = .ok (.idiv, 1) := by decide +kernel
theorem dX8_doCall_29 : decode cX8_doCall 29 = .ok (.iastore, 1) := by decide +kernel
theorem dX8_doCall_30 : decode cX8_doCall 30 = .ok (.aload_n 0, 1) := by decide +kernel
theorem dX8_doCall_31 : decode cX8_doCall 31 = .ok (.getfield 7, 3) := by decide +kernel
theorem dX8_doCall_34 : decode cX8_doCall 34 = .ok (.bipush 12, 2) := by decide +kernel
theorem dX8_doCall_36 : decode cX8_doCall 36 = .ok (.dup2, 1) := by decide +kernel
theorem dX8_doCall_37 : decode cX8_doCall 37 = .ok (.iaload, 1) := by decide +kernel
theorem dX8_doCall_38 : decode cX8_doCall 38 = .ok (.iconst 1, 1) := by decide +kernel
theorem dX8_doCall_39 : decode cX8_doCall 39 = .ok (.iadd, 1) := by decide +kernel
theorem dX8_doCall_40 : decode cX8_doCall 40 = .ok (.iastore, 1) := by decide +kernel
theorem dX8_doCall_41 : decode cX8_doCall 41 = .ok (.aload_n 0, 1) := by decide +kernel
theorem dX8_doCall_42 : decode cX8_doCall 42 = .ok (.getfield 7, 3) := by decide +kernel
theorem dX8_doCall_45 : decode cX8_doCall 45 = .ok (.bipush 6, 2) := by decide +kernel
theorem dX8_doCall_47 : decode cX8_doCall 47 = .ok (.iaload, 1) := by decide +kernel
theorem dX8_doCall_48 : decode cX8_doCall 48 = .ok (.ireturn, 1) := by decide +kernel
theorem dX8_keepRecord_0 : decode cX8_keepRecord 0 = .ok (.bipush 23, 2) := by decide +kernel
theorem dX8_keepRecord_2 : decode cX8_keepRecord 2 = .ok (.istore_n 1, 1) := by decide +kernel
theorem dX8_keepRecord_3 : decode cX8_keepRecord 3 = .ok (.iload_n 1, 1) := by decide +kernel
theorem dX8_keepRecord_4 : decode cX8_keepRecord 4 = .ok (.iconst 3, 1) := by decide +kernel
theorem dX8_keepRecord_5 : decode cX8_keepRecord 5 = .ok (.if_icmp .le 31, 3) := by decide +kernel
theorem dX8_keepRecord_8 : decode cX8_keepRecord 8 = .ok (.aload_n 0, 1) := by decide +kernel
theorem dX8_keepRecord_9 : decode cX8_keepRecord 9 = .ok (.getfield 7, 3) := by decide +kernel
theorem dX8_keepRecord_12 : decode cX8_keepRecord 12 = .ok (.sipush 264, 3) := by decide +kernel
theorem dX8_keepRecord_15 : decode cX8_keepRecord 15 = .ok (.iload_n 1, 1) := by decide +kernel
theorem dX8_keepRecord_16 : decode cX8_keepRecord 16 = .ok (.iadd, 1) := by decide +kernel
theorem dX8_keepRecord_17 : decode cX8_keepRecord 17 = .ok (.aload_n 0, 1) := by decide +kernel
theorem dX8_keepRecord_18 : decode cX8_keepRecord 18 = .ok (.getfield 7, 3) := by decide +kernel
theorem dX8_keepRecord_21 : decode cX8_keepRecord 21 = .ok (.sipush 264, 3) := by decide +kernel
theorem dX8_keepRecord_24 : decode cX8_keepRecord 24 = .ok (.iload_n 1, 1) := by decide +kernel
theorem dX8_keepRecord_25 : decode cX8_keepRecord 25 = .ok (.iadd, 1) := by decide +kernel
theorem dX8_keepRecord_26 : decode cX8_keepRecord 26 = .ok (.iconst 4, 1) := by decide +kernel
theorem dX8_keepRecord_27 : decode cX8_keepRecord 27 = .ok (.isub, 1) := by decide +kernel
theorem dX8_keepRecord_28 : decode cX8_keepRecord 28 = .ok (.iaload, 1) := by decide +kernel
theorem dX8_keepRecord_29 : decode cX8_keepRecord 29 = .ok (.iastore, 1) := by decide +kernel
theorem dX8_keepRecord_30 : decode cX8_keepRecord 30 = .ok (.iinc 1 (-1), 3) := by decide +kernel
theorem dX8_keepRecord_33 : decode cX8_keepRecord 33 = .ok (.goto (-30), 3) := by decide +kernel
theorem dX8_keepRecord_36 : decode cX8_keepRecord 36 = .ok (.iconst 0, 1) := by decide +kernel
theorem dX8_keepRecord_37 : decode cX8_keepRecord 37 = .ok (.istore_n 1, 1) := by decide +kernel
theorem dX8_keepRecord_38 : decode cX8_keepRecord 38 = .ok (.iload_n 1, 1) := by decide +kernel
theorem dX8_keepRecord_39 : decode cX8_keepRecord 39 = .ok (.iconst 4, 1) := by decide +kernel
theorem dX8_keepRecord_40 : decode cX8_keepRecord 40 = .ok (.if_icmp .ge 38, 3) := by decide +kernel
theorem dX8_keepRecord_43 : decode cX8_keepRecord 43 = .ok (.aload_n 0, 1) := by decide +kernel
theorem dX8_keepRecord_44 : decode cX8_keepRecord 44 = .ok (.getfield 7, 3) := by decide +kernel
theorem dX8_keepRecord_47 : decode cX8_keepRecord 47 = .ok (.sipush 264, 3) := by decide +kernel
theorem dX8_keepRecord_50 : decode cX8_keepRecord 50 = .ok (.iload_n 1, 1) := by decide +kernel
theorem dX8_keepRecord_51 : decode cX8_keepRecord 51 = .ok (.iadd, 1) := by decide +kernel
theorem dX8_keepRecord_52 : decode cX8_keepRecord 52 = .ok (.aload_n 0, 1) := by decide +kernel
theorem dX8_keepRecord_53 : decode cX8_keepRecord 53 = .ok (.getfield 7, 3) := by decide +kernel
theorem dX8_keepRecord_56 : decode cX8_keepRecord 56 = .ok (.bipush 9, 2) := by decide +kernel
theorem dX8_keepRecord_58 : decode cX8_keepRecord 58 = .ok (.iload_n 1, 1) := by decide +kernel
theorem dX8_keepRecord_59 : decode cX8_keepRecord 59 = .ok (.iadd, 1) := by decide +kernel
theorem dX8_keepRecord_60 : decode cX8_keepRecord 60 = .ok (.iaload, 1) := by decide +kernel
theorem dX8_keepRecord_61 : decode cX8_keepRecord 61 = .ok (.iastore, 1) := by decide +kernel
theorem dX8_keepRecord_62 : decode cX8_keepRecord 62 = .ok (.aload_n 0, 1) := by decide +kernel
theorem dX8_keepRecord_63 : decode cX8_keepRecord 63 = .ok (.getfield 7, 3) := by decide +kernel
theorem dX8_keepRecord_66 : decode cX8_keepRecord 66 = .ok (.bipush 9, 2) := by decide +kernel
theorem dX8_keepRecord_68 : decode cX8_keepRecord 68 = .ok (.iload_n 1, 1) := by decide +kernel
theorem dX8_keepRecord_69 : decode cX8_keepRecord 69 = .ok (.iadd, 1) := by decide +kernel
theorem dX8_keepRecord_70 : decode cX8_keepRecord 70 = .ok (.iconst 0, 1) := by decide +kernel
theorem dX8_keepRecord_71 : decode cX8_keepRecord 71 = .ok (.iastore, 1) := by decide +kernel
theorem dX8_keepRecord_72 : decode cX8_keepRecord 72 = .ok (.iinc 1 1, 3) := by decide +kernel
theorem dX8_keepRecord_75 : decode cX8_keepRecord 75 = .ok (.goto (-37), 3) := by decide +kernel
theorem dX8_keepRecord_78 : decode cX8_keepRecord 78 = .ok (.aload_n 0, 1) := by decide +kernel
theorem dX8_keepRecord_79 : decode cX8_keepRecord 79 = .ok (.getfield 7, 3) := by decide +kernel
theorem dX8_keepRecord_82 : decode cX8_keepRecord 82 = .ok (.bipush 19, 2) := by decide +kernel
theorem dX8_keepRecord_84 : decode cX8_keepRecord 84 = .ok (.dup2, 1) := by decide +kernel
theorem dX8_keepRecord_85 : decode cX8_keepRecord 85 = .ok (.iaload, 1) := by decide +kernel
theorem dX8_keepRecord_86 : decode cX8_keepRecord 86 = .ok (.aload_n 0, 1) := by decide +kernel
theorem dX8_keepRecord_87 : decode cX8_keepRecord 87 = .ok (.getfield 7, 3) := by decide +kernel
theorem dX8_keepRecord_90 : decode cX8_keepRecord 90 = .ok (.bipush 19, 2) := by decide +kernel
theorem dX8_keepRecord_92 : decode cX8_keepRecord 92 = .ok (.iaload, 1) := by decide +kernel
theorem dX8_keepRecord_93 : decode cX8_keepRecord 93 = .ok (.bipush 6, 2) := by decide +kernel
theorem dX8_keepRecord_95 : decode cX8_keepRecord 95 = .ok (.if_icmp .ge 7, 3) := by decide +kernel
theorem dX8_keepRecord_98 : decode cX8_keepRecord 98 = .ok (.iconst 1, 1) := by decide +kernel
theorem dX8_keepRecord_99 : decode cX8_keepRecord 99 = .ok (.goto 4, 3) := by decide +kernel
theorem dX8_keepRecord_102 : decode cX8_keepRecord 102 = .ok (.iconst 0, 1) := by decide +kernel
theorem dX8_keepRecord_103 : decode cX8_keepRecord 103 = .ok (.iadd, 1) := by decide +kernel
theorem dX8_keepRecord_104 : decode cX8_keepRecord 104 = .ok (.iastore, 1) := by decide +kernel
theorem dX8_keepRecord_105 : decode cX8_keepRecord 105 = .ok (.return_, 1) := by decide +kernel
set_option maxRecDepth 20000 in
theorem ggX8_doNight_X8_countLapse : GoodIn wsX8_doNight wsX8_countLapse := goodIn_r _ [6, 1, 15, 16, 17, 18, 19, 20, 21, 22, 23, 24, 25, 26] (by decide +kernel) (by decide +kernel)
set_option maxRecDepth 20000 in
theorem gX8_doNight_X8_countLapse : GoodIn wsX8_doNight (wsV RX8 50 RX8 yX8_countLapse wsX8_countLapse) := goodIn_app (goodIn_of _ (by decide +kernel)) ggX8_doNight_X8_countLapse
set_option maxRecDepth 20000 in
theorem ggX8_doNight_X8_keepRecord : GoodIn wsX8_doNight wsX8_keepRecord := goodIn_r _ [10, 1, 15, 16, 17, 18, 19, 20, 21, 22, 23, 24, 25, 26] (by decide +kernel) (by decide +kernel)
set_option maxRecDepth 20000 in
theorem gX8_doNight_X8_keepRecord : GoodIn wsX8_doNight (wsV RX8 93 RX8 yX8_keepRecord wsX8_keepRecord) := goodIn_app (goodIn_of _ (by decide +kernel)) ggX8_doNight_X8_keepRecord
set_option maxRecDepth 20000 in
theorem ggX8_doNight_X8_setSeat : GoodIn wsX8_doNight wsX8_setSeat := goodIn_r _ [14, 1, 15, 16, 17, 18, 19, 20, 21, 22, 23, 24, 25, 26] (by decide +kernel) (by decide +kernel)
set_option maxRecDepth 20000 in
theorem gX8_doNight_X8_setSeat : GoodIn wsX8_doNight (wsV RX8 28 RX8 yX8_setSeat wsX8_setSeat) := goodIn_app (goodIn_of _ (by decide +kernel)) ggX8_doNight_X8_setSeat
theorem dX8_doNight_0 : decode cX8_doNight 0 = .ok (.aload_n 0, 1) := by decide +kernel
theorem dX8_doNight_1 : decode cX8_doNight 1 = .ok (.getfield 7, 3) := by decide +kernel
theorem dX8_doNight_4 : decode cX8_doNight 4 = .ok (.bipush 8, 2) := by decide +kernel
theorem dX8_doNight_6 : decode cX8_doNight 6 = .ok (.iaload, 1) := by decide +kernel
theorem dX8_doNight_7 : decode cX8_doNight 7 = .ok (.bipush 99, 2) := by decide +kernel
theorem dX8_doNight_9 : decode cX8_doNight 9 = .ok (.if_icmp .ne 6, 3) := by decide +kernel
theorem dX8_doNight_12 : decode cX8_doNight 12 = .ok (.bipush (-5), 2) := by decide +kernel
theorem dX8_doNight_14 : decode cX8_doNight 14 = .ok (.ireturn, 1) := by decide +kernel
theorem dX8_doNight_15 : decode cX8_doNight 15 = .ok (.aload_n 0, 1) := by decide +kernel
theorem dX8_doNight_16 : decode cX8_doNight 16 = .ok (.getfield 7, 3) := by decide +kernel
theorem dX8_doNight_19 : decode cX8_doNight 19 = .ok (.bipush 17, 2) := by decide +kernel
theorem dX8_doNight_21 : decode cX8_doNight 21 = .ok (.iaload, 1) := by decide +kernel
theorem dX8_doNight_22 : decode cX8_doNight 22 = .ok (.istore_n 1, 1) := by decide +kernel
theorem dX8_doNight_23 : decode cX8_doNight 23 = .ok (.iconst 0, 1) := by decide +kernel
theorem dX8_doNight_24 : decode cX8_doNight 24 = .ok (.istore_n 2, 1) := by decide +kernel
theorem dX8_doNight_25 : decode cX8_doNight 25 = .ok (.iload_n 2, 1) := by decide +kernel
theorem dX8_doNight_26 : decode cX8_doNight 26 = .ok (.iload_n 1, 1) := by decide +kernel
theorem dX8_doNight_27 : decode cX8_doNight 27 = .ok (.if_icmp .ge 25, 3) := by decide +kernel
theorem dX8_doNight_30 : decode cX8_doNight 30 = .ok (.aload_n 0, 1) := by decide +kernel
theorem dX8_doNight_31 : decode cX8_doNight 31 = .ok (.aload_n 0, 1) := by decide +kernel
theorem dX8_doNight_32 : decode cX8_doNight 32 = .ok (.getfield 7, 3) := by decide +kernel
theorem dX8_doNight_35 : decode cX8_doNight 35 = .ok (.sipush 218, 3) := by decide +kernel
theorem dX8_doNight_38 : decode cX8_doNight 38 = .ok (.iconst 2, 1) := by decide +kernel
theorem dX8_doNight_39 : decode cX8_doNight 39 = .ok (.iload_n 2, 1) := by decide +kernel
theorem dX8_doNight_40 : decode cX8_doNight 40 = .ok (.imul, 1) := by decide +kernel
theorem dX8_doNight_41 : decode cX8_doNight 41 = .ok (.iadd, 1) := by decide +kernel
theorem dX8_doNight_42 : decode cX8_doNight 42 = .ok (.iaload, 1) := by decide +kernel
theorem dX8_doNight_43 : decode cX8_doNight 43 = .ok (.invokevirtual 50, 3) := by decide +kernel
theorem dX8_doNight_46 : decode cX8_doNight 46 = .ok (.iinc 2 1, 3) := by decide +kernel
theorem dX8_doNight_49 : decode cX8_doNight 49 = .ok (.goto (-24), 3) := by decide +kernel
theorem dX8_doNight_52 : decode cX8_doNight 52 = .ok (.aload_n 0, 1) := by decide +kernel
theorem dX8_doNight_53 : decode cX8_doNight 53 = .ok (.getfield 7, 3) := by decide +kernel
theorem dX8_doNight_56 : decode cX8_doNight 56 = .ok (.bipush 17, 2) := by decide +kernel
theorem dX8_doNight_58 : decode cX8_doNight 58 = .ok (.iconst 0, 1) := by decide +kernel
theorem dX8_doNight_59 : decode cX8_doNight 59 = .ok (.iastore, 1) := by decide +kernel
theorem dX8_doNight_60 : decode cX8_doNight 60 = .ok (.aload_n 0, 1) := by decide +kernel
theorem dX8_doNight_61 : decode cX8_doNight 61 = .ok (.invokevirtual 93, 3) := by decide +kernel
theorem dX8_doNight_64 : decode cX8_doNight 64 = .ok (.aload_n 0, 1) := by decide +kernel
theorem dX8_doNight_65 : decode cX8_doNight 65 = .ok (.getfield 7, 3) := by decide +kernel
theorem dX8_doNight_68 : decode cX8_doNight 68 = .ok (.bipush 6, 2) := by decide +kernel
theorem dX8_doNight_70 : decode cX8_doNight 70 = .ok (.iconst 0, 1) := by decide +kernel
theorem dX8_doNight_71 : decode cX8_doNight 71 = .ok (.iastore, 1) := by decide +kernel
theorem dX8_doNight_72 : decode cX8_doNight 72 = .ok (.aload_n 0, 1) := by decide +kernel
theorem dX8_doNight_73 : decode cX8_doNight 73 = .ok (.getfield 7, 3) := by decide +kernel
theorem dX8_doNight_76 : decode cX8_doNight 76 = .ok (.bipush 13, 2) := by decide +kernel
theorem dX8_doNight_78 : decode cX8_doNight 78 = .ok (.iconst 0, 1) := by decide +kernel
theorem dX8_doNight_79 : decode cX8_doNight 79 = .ok (.iastore, 1) := by decide +kernel
theorem dX8_doNight_80 : decode cX8_doNight 80 = .ok (.aload_n 0, 1) := by decide +kernel
theorem dX8_doNight_81 : decode cX8_doNight 81 = .ok (.getfield 7, 3) := by decide +kernel
theorem dX8_doNight_84 : decode cX8_doNight 84 = .ok (.bipush 18, 2) := by decide +kernel
theorem dX8_doNight_86 : decode cX8_doNight 86 = .ok (.iconst 0, 1) := by decide +kernel
theorem dX8_doNight_87 : decode cX8_doNight 87 = .ok (.iastore, 1) := by decide +kernel
theorem dX8_doNight_88 : decode cX8_doNight 88 = .ok (.aload_n 0, 1) := by decide +kernel
theorem dX8_doNight_89 : decode cX8_doNight 89 = .ok (.getfield 7, 3) := by decide +kernel
theorem dX8_doNight_92 : decode cX8_doNight 92 = .ok (.bipush 8, 2) := by decide +kernel
theorem dX8_doNight_94 : decode cX8_doNight 94 = .ok (.dup2, 1) := by decide +kernel
theorem dX8_doNight_95 : decode cX8_doNight 95 = .ok (.iaload, 1) := by decide +kernel
theorem dX8_doNight_96 : decode cX8_doNight 96 = .ok (.iconst 1, 1) := by decide +kernel
theorem dX8_doNight_97 : decode cX8_doNight 97 = .ok (.iadd, 1) := by decide +kernel
theorem dX8_doNight_98 : decode cX8_doNight 98 = .ok (.iastore, 1) := by decide +kernel
theorem dX8_doNight_99 : decode cX8_doNight 99 = .ok (.iconst 0, 1) := by decide +kernel
theorem dX8_doNight_100 : decode cX8_doNight 100 = .ok (.istore_n 2, 1) := by decide +kernel
theorem dX8_doNight_101 : decode cX8_doNight 101 = .ok (.iload_n 2, 1) := by decide +kernel
theorem dX8_doNight_102 : decode cX8_doNight 102 = .ok (.bipush 30, 2) := by decide +kernel
theorem dX8_doNight_104 : decode cX8_doNight 104 = .ok (.if_icmp .ge 23, 3) := by decide +kernel
theorem dX8_doNight_107 : decode cX8_doNight 107 = .ok (.aload_n 0, 1) := by decide +kernel
theorem dX8_doNight_108 : decode cX8_doNight 108 = .ok (.iload_n 2, 1) := by decide +kernel
theorem dX8_doNight_109 : decode cX8_doNight 109 = .ok (.iconst 3, 1) := by decide +kernel
theorem dX8_doNight_110 : decode cX8_doNight 110 = .ok (.iconst 0, 1) := by decide +kernel
theorem dX8_doNight_111 : decode cX8_doNight 111 = .ok (.invokevirtual 28, 3) := by decide +kernel
theorem dX8_doNight_114 : decode cX8_doNight 114 = .ok (.aload_n 0, 1) := by decide +kernel
theorem dX8_doNight_115 : decode cX8_doNight 115 = .ok (.iload_n 2, 1) := by decide +kernel
theorem dX8_doNight_116 : decode cX8_doNight 116 = .ok (.iconst 4, 1) := by decide +kernel
theorem dX8_doNight_117 : decode cX8_doNight 117 = .ok (.iconst 0, 1) := by decide +kernel
theorem dX8_doNight_118 : decode cX8_doNight 118 = .ok (.invokevirtual 28, 3) := by decide +kernel
theorem dX8_doNight_121 : decode cX8_doNight 121 = .ok (.iinc 2 1, 3) := by decide +kernel
theorem dX8_doNight_124 : decode cX8_doNight 124 = .ok (.goto (-23), 3) := by decide +kernel
theorem dX8_doNight_127 : decode cX8_doNight 127 = .ok (.iload_n 1, 1) := by decide +kernel
theorem dX8_doNight_128 : decode cX8_doNight 128 = .ok (.ireturn, 1) := by decide +kernel
set_option maxRecDepth 20000 in
theorem ggX8_those_X8_seat : GoodIn wsX8_those wsX8_seat := goodIn_r _ [5, 6, 7, 8, 9, 10, 11, 12, 13, 14, 15, 16, 17, 18] (by decide +kernel) (by decide +kernel)
set_option maxRecDepth 20000 in
theorem gX8_those_X8_seat : GoodIn wsX8_those (wsV RX8 61 RX8 yX8_seat wsX8_seat) := goodIn_app (goodIn_of _ (by decide +kernel)) ggX8_those_X8_seat
theorem dX8_those_0 : decode cX8_those 0 = .ok (.iconst 0, 1) := by decide +kernel
theorem dX8_those_1 : decode cX8_those 1 = .ok (.istore_n 3, 1) := by decide +kernel
theorem dX8_those_2 : decode cX8_those 2 = .ok (.iconst 0, 1) := by decide +kernel
theorem dX8_those_3 : decode cX8_those 3 = .ok (.istore 4, 2) := by decide +kernel
theorem dX8_those_5 : decode cX8_those 5 = .ok (.iload 4, 2) := by decide +kernel
theorem dX8_those_7 : decode cX8_those 7 = .ok (.bipush 30, 2) := by decide +kernel
theorem dX8_those_9 : decode cX8_those 9 = .ok (.if_icmp .ge 66, 3) := by decide +kernel
theorem dX8_those_12 : decode cX8_those 12 = .ok (.iload_n 1, 1) := by decide +kernel
theorem dX8_those_13 : decode cX8_those 13 = .ok (.ifCond .eq 22, 3) := by decide +kernel
theorem dX8_those_16 : decode cX8_those 16 = .ok (.aload_n 0, 1) := by decide +kernel
theorem dX8_those_17 : decode cX8_those 17 = .ok (.iload 4, 2) := by decide +kernel
theorem dX8_those_19 : decode cX8_those 19 = .ok (.iconst 1, 1) := by decide +kernel
theorem dX8_those_20 : decode cX8_those 20 = .ok (.invokevirtual 61, 3) := by decide +kernel
theorem dX8_those_23 : decode cX8_those 23 = .ok (.iconst 1, 1) := by decide +kernel
theorem dX8_those_24 : decode cX8_those 24 = .ok (.if_icmp .ne 7, 3) := by decide +kernel
theorem dX8_those_27 : decode cX8_those 27 = .ok (.iconst 1, 1) := by decide +kernel
theorem dX8_those_28 : decode cX8_those 28 = .ok (.goto 23, 3) := by decide +kernel
theorem dX8_those_31 : decode cX8_those 31 = .ok (.iconst 0, 1) := by decide +kernel
theorem dX8_those_32 : decode cX8_those 32 = .ok (.goto 19, 3) := by decide +kernel
theorem dX8_those_35 : decode cX8_those 35 = .ok (.aload_n 0, 1) := by decide +kernel
theorem dX8_those_36 : decode cX8_those 36 = .ok (.iload 4, 2) := by decide +kernel
theorem dX8_those_38 : decode cX8_those 38 = .ok (.iconst 2, 1) := by decide +kernel
theorem dX8_those_39 : decode cX8_those 39 = .ok (.invokevirtual 61, 3) := by decide +kernel
theorem dX8_those_42 : decode cX8_those 42 = .ok (.iload_n 2, 1) := by decide +kernel
theorem dX8_those_43 : decode cX8_those 43 = .ok (.if_icmp .lt 7, 3) := by decide +kernel
theorem dX8_those_46 : decode cX8_those 46 = .ok (.iconst 1, 1) := by decide +kernel
theorem dX8_those_47 : decode cX8_those 47 = .ok (.goto 4, 3) := by decide +kernel
theorem dX8_those_50 : decode cX8_those 50 = .ok (.iconst 0, 1) := by decide +kernel
theorem dX8_those_51 : decode cX8_those 51 = .ok (.istore 5, 2) := by decide +kernel
theorem dX8_those_53 : decode cX8_those 53 = .ok (.iload_n 3, 1) := by decide +kernel
theorem dX8_those_54 : decode cX8_those 54 = .ok (.iload 5, 2) := by decide +kernel
theorem dX8_those_56 : decode cX8_those 56 = .ok (.ifCond .eq 10, 3) := by decide +kernel
theorem dX8_those_59 : decode cX8_those 59 = .ok (.iconst 1, 1) := by decide +kernel
theorem dX8_those_60 : decode cX8_those 60 = .ok (.iload 4, 2) := by decide +kernel
theorem dX8_those_62 : decode cX8_those 62 = .ok (.ishl, 1) := by decide +kernel
theorem dX8_those_63 : decode cX8_those 63 = .ok (.goto 4, 3) := by decide +kernel
theorem dX8_those_66 : decode cX8_those 66 = .ok (.iconst 0, 1) := by decide +kernel
theorem dX8_those_67 : decode cX8_those 67 = .ok (.ior, 1) := by decide +kernel
theorem dX8_those_68 : decode cX8_those 68 = .ok (.istore_n 3, 1) := by decide +kernel
theorem dX8_those_69 : decode cX8_those 69 = .ok (.iinc 4 1, 3) := by decide +kernel
theorem dX8_those_72 : decode cX8_those 72 = .ok (.goto (-67), 3) := by decide +kernel
theorem dX8_those_75 : decode cX8_those 75 = .ok (.iload_n 3, 1) := by decide +kernel
theorem dX8_those_76 : decode cX8_those 76 = .ok (.ireturn, 1) := by decide +kernel
set_option maxRecDepth 20000 in
theorem ggX8_doPay_X8_isSeat : GoodIn wsX8_doPay wsX8_isSeat := goodIn_r _ [4, 5, 6, 3, 7] (by decide +kernel) (by decide +kernel)
set_option maxRecDepth 20000 in
theorem gX8_doPay_X8_isSeat : GoodIn wsX8_doPay (va_wsS RX8 65 yX8_isSeat wsX8_isSeat) := goodIn_app (goodIn_of _ (by decide +kernel)) ggX8_doPay_X8_isSeat
set_option maxRecDepth 20000 in
theorem ggX8_doPay_X8_seat : GoodIn wsX8_doPay wsX8_seat := goodIn_r _ [11, 12, 21, 22, 23, 24, 25, 26, 27, 28, 29, 30, 31, 32] (by decide +kernel) (by decide +kernel)
set_option maxRecDepth 20000 in
theorem gX8_doPay_X8_seat : GoodIn wsX8_doPay (wsV RX8 61 RX8 yX8_seat wsX8_seat) := goodIn_app (goodIn_of _ (by decide +kernel)) ggX8_doPay_X8_seat
set_option maxRecDepth 20000 in
theorem ggX8_doPay_X8_setSeat : GoodIn wsX8_doPay wsX8_setSeat := goodIn_r _ [16, 12, 21, 22, 23, 24, 25, 26, 27, 28, 29, 30, 31, 32] (by decide +kernel) (by decide +kernel)
set_option maxRecDepth 20000 in
theorem gX8_doPay_X8_setSeat : GoodIn wsX8_doPay (wsV RX8 28 RX8 yX8_setSeat wsX8_setSeat) := goodIn_app (goodIn_of _ (by decide +kernel)) ggX8_doPay_X8_setSeat
set_option maxRecDepth 20000 in
theorem ggX8_doPay_X8_those : GoodIn wsX8_doPay wsX8_those := goodIn_r _ [20, 8, 9, 10, 3, 11, 12, 21, 22, 23, 24, 25, 26, 27, 28, 29, 30, 31, 32] (by decide +kernel) (by decide +kernel)
set_option maxRecDepth 20000 in
theorem gX8_doPay_X8_those : GoodIn wsX8_doPay (wsV RX8 96 RX8 yX8_those wsX8_those) := goodIn_app (goodIn_of _ (by decide +kernel)) ggX8_doPay_X8_those
theorem dX8_doPay_0 : decode cX8_doPay 0 = .ok (.iload_n 1, 1) := by decide +kernel
theorem dX8_doPay_1 : decode cX8_doPay 1 = .ok (.invokestatic 65, 3) := by decide +kernel
theorem dX8_doPay_4 : decode cX8_doPay 4 = .ok (.ifCond .ne 5, 3) := by decide +kernel
theorem dX8_doPay_7 : decode cX8_doPay 7 = .ok (.iconst (-1), 1) := by decide +kernel
theorem dX8_doPay_8 : decode cX8_doPay 8 = .ok (.ireturn, 1) := by decide +kernel
theorem dX8_doPay_9 : decode cX8_doPay 9 = .ok (.aload_n 0, 1) := by decide +kernel
theorem dX8_doPay_10 : decode cX8_doPay 10 = .ok (.iload_n 1, 1) := by decide +kernel
theorem dX8_doPay_11 : decode cX8_doPay 11 = .ok (.iconst 1, 1) := by decide +kernel
theorem dX8_doPay_12 : decode cX8_doPay 12 = .ok (.iconst 1, 1) := by decide +kernel
theorem dX8_doPay_13 : decode cX8_doPay 13 = .ok (.aload_n 0, 1) := by decide +kernel
theorem dX8_doPay_14 : decode cX8_doPay 14 = .ok (.iload_n 1, 1) := by decide +kernel
theorem dX8_doPay_15 : decode cX8_doPay 15 = .ok (.iconst 1, 1) := by decide +kernel
theorem dX8_doPay_16 : decode cX8_doPay 16 = .ok (.invokevirtual 61, 3) := by decide +kernel
theorem dX8_doPay_19 : decode cX8_doPay 19 = .ok (.isub, 1) := by decide +kernel
theorem dX8_doPay_20 : decode cX8_doPay 20 = .ok (.invokevirtual 28, 3) := by decide +kernel
theorem dX8_doPay_23 : decode cX8_doPay 23 = .ok (.aload_n 0, 1) := by decide +kernel
theorem dX8_doPay_24 : decode cX8_doPay 24 = .ok (.iconst 1, 1) := by decide +kernel
theorem dX8_doPay_25 : decode cX8_doPay 25 = .ok (.iconst 0, 1) := by decide +kernel
theorem dX8_doPay_26 : decode cX8_doPay 26 = .ok (.invokevirtual 96, 3) := by decide +kernel
theorem dX8_doPay_29 : decode cX8_doPay 29 = .ok (.ireturn, 1) := by decide +kernel
theorem dX8_leastOf_0 : decode cX8_leastOf 0 = .ok (.iload_n 0, 1) := by decide +kernel
theorem dX8_leastOf_1 : decode cX8_leastOf 1 = .ok (.iconst 1, 1) := by decide +kernel
theorem dX8_leastOf_2 : decode cX8_leastOf 2 = .ok (.if_icmp .ne 8, 3) := by decide +kernel
theorem dX8_leastOf_5 : decode cX8_leastOf 5 = .ok (.bipush 20, 2) := by decide +kernel
theorem dX8_leastOf_7 : decode cX8_leastOf 7 = .ok (.goto 13, 3) := by decide +kernel
theorem dX8_leastOf_10 : decode cX8_leastOf 10 = .ok (.iload_n 0, 1) := by decide +kernel
theorem dX8_leastOf_11 : decode cX8_leastOf 11 = .ok (.iconst 3, 1) := by decide +kernel
theorem dX8_leastOf_12 : decode cX8_leastOf 12 = .ok (.if_icmp .ne 7, 3) := by decide +kernel
theorem dX8_leastOf_15 : decode cX8_leastOf 15 = .ok (.iconst 0, 1) := by decide +kernel
theorem dX8_leastOf_16 : decode cX8_leastOf 16 = .ok (.goto 4, 3) := by decide +kernel
theorem dX8_leastOf_19 : decode cX8_leastOf 19 = .ok (.iconst 1, 1) := by decide +kernel
theorem dX8_leastOf_20 : decode cX8_leastOf 20 = .ok (.ireturn, 1) := by decide +kernel
theorem dX8_mostOf_0 : decode cX8_mostOf 0 = .ok (.iload_n 0, 1) := by decide +kernel
theorem dX8_mostOf_1 : decode cX8_mostOf 1 = .ok (.ifCond .ne 8, 3) := by decide +kernel
theorem dX8_mostOf_4 : decode cX8_mostOf 4 = .ok (.bipush 50, 2) := by decide +kernel
theorem dX8_mostOf_6 : decode cX8_mostOf 6 = .ok (.goto 32, 3) := by decide +kernel
theorem dX8_mostOf_9 : decode cX8_mostOf 9 = .ok (.iload_n 0, 1) := by decide +kernel
theorem dX8_mostOf_10 : decode cX8_mostOf 10 = .ok (.iconst 2, 1) := by decide +kernel
theorem dX8_mostOf_11 : decode cX8_mostOf 11 = .ok (.if_icmp .ne 9, 3) := by decide +kernel
theorem dX8_mostOf_14 : decode cX8_mostOf 14 = .ok (.sipush 300, 3) := by decide +kernel
theorem dX8_mostOf_17 : decode cX8_mostOf 17 = .ok (.goto 21, 3) := by decide +kernel
theorem dX8_mostOf_20 : decode cX8_mostOf 20 = .ok (.iload_n 0, 1) := by decide +kernel
theorem dX8_mostOf_21 : decode cX8_mostOf 21 = .ok (.iconst 3, 1) := by decide +kernel
theorem dX8_mostOf_22 : decode cX8_mostOf 22 = .ok (.if_icmp .eq 8, 3) := by decide +kernel
theorem dX8_mostOf_25 : decode cX8_mostOf 25 = .ok (.iload_n 0, 1) := by decide +kernel
theorem dX8_mostOf_26 : decode cX8_mostOf 26 = .ok (.iconst 4, 1) := by decide +kernel
theorem dX8_mostOf_27 : decode cX8_mostOf 27 = .ok (.if_icmp .ne 8, 3) := by decide +kernel
theorem dX8_mostOf_30 : decode cX8_mostOf 30 = .ok (.bipush 9, 2) := by decide +kernel
theorem dX8_mostOf_32 : decode cX8_mostOf 32 = .ok (.goto 6, 3) := by decide +kernel
theorem dX8_mostOf_35 : decode cX8_mostOf 35 = .ok (.sipush 900, 3) := by decide +kernel
theorem dX8_mostOf_38 : decode cX8_mostOf 38 = .ok (.ireturn, 1) := by decide +kernel
set_option maxRecDepth 20000 in
theorem ggX8_set_X8_within : GoodIn wsX8_set wsX8_within := goodIn_r _ [5] (by decide +kernel) (by decide +kernel)
set_option maxRecDepth 20000 in
theorem gX8_set_X8_within : GoodIn wsX8_set (va_wsS RX8 32 yX8_within wsX8_within) := goodIn_app (goodIn_of _ (by decide +kernel)) ggX8_set_X8_within
set_option maxRecDepth 20000 in
theorem ggX8_set_X8_leastOf : GoodIn wsX8_set wsX8_leastOf := goodIn_r _ [8] (by decide +kernel) (by decide +kernel)
set_option maxRecDepth 20000 in
theorem gX8_set_X8_leastOf : GoodIn wsX8_set (va_wsS RX8 100 yX8_leastOf wsX8_leastOf) := goodIn_app (goodIn_of _ (by decide +kernel)) ggX8_set_X8_leastOf
set_option maxRecDepth 20000 in
theorem ggX8_set_X8_mostOf : GoodIn wsX8_set wsX8_mostOf := goodIn_r _ [11] (by decide +kernel) (by decide +kernel)
set_option maxRecDepth 20000 in
theorem gX8_set_X8_mostOf : GoodIn wsX8_set (va_wsS RX8 103 yX8_mostOf wsX8_mostOf) := goodIn_app (goodIn_of _ (by decide +kernel)) ggX8_set_X8_mostOf
set_option maxRecDepth 20000 in
theorem ggX8_set_X8_putAside : GoodIn wsX8_set wsX8_putAside := goodIn_r _ [15, 16, 1, 27, 28, 29, 30, 31, 32, 33, 34, 35, 36, 37, 38] (by decide +kernel) (by decide +kernel)
set_option maxRecDepth 20000 in
theorem gX8_set_X8_putAside : GoodIn wsX8_set (wsV RX8 47 RX8 yX8_putAside wsX8_putAside) := goodIn_app (goodIn_of _ (by decide +kernel)) ggX8_set_X8_putAside
set_option maxRecDepth 20000 in
theorem ggX8_set_X8_recorded : GoodIn wsX8_set wsX8_recorded := goodIn_r _ [20, 21, 22, 23, 4, 24, 25, 26, 16, 27, 28, 29, 30, 31, 32, 33, 34, 35, 36, 37, 38] (by decide +kernel) (by decide +kernel)
set_option maxRecDepth 20000 in
theorem gX8_set_X8_recorded : GoodIn wsX8_set (wsV RX8 106 RX8 yX8_recorded wsX8_recorded) := goodIn_app (goodIn_of _ (by decide +kernel)) ggX8_set_X8_recorded
theorem dX8_set_0 : decode cX8_set 0 = .ok (.iload_n 1, 1) := by decide +kernel
theorem dX8_set_1 : decode cX8_set 1 = .ok (.iconst 0, 1) := by decide +kernel
theorem dX8_set_2 : decode cX8_set 2 = .ok (.iconst 5, 1) := by decide +kernel
theorem dX8_set_3 : decode cX8_set 3 = .ok (.invokestatic 32, 3) := by decide +kernel
theorem dX8_set_6 : decode cX8_set 6 = .ok (.ifCond .eq 18, 3) := by decide +kernel
theorem dX8_set_9 : decode cX8_set 9 = .ok (.iload_n 2, 1) := by decide +kernel
theorem dX8_set_10 : decode cX8_set 10 = .ok (.iload_n 1, 1) := by decide +kernel
theorem dX8_set_11 : decode cX8_set 11 = .ok (.invokestatic 100, 3) := by decide +kernel
theorem dX8_set_14 : decode cX8_set 14 = .ok (.iload_n 1, 1) := by decide +kernel
theorem dX8_set_15 : decode cX8_set 15 = .ok (.invokestatic 103, 3) := by decide +kernel
theorem dX8_set_18 : decode cX8_set 18 = .ok (.invokestatic 32, 3) := by decide +kernel
theorem dX8_set_21 : decode cX8_set 21 = .ok (.ifCond .ne 6, 3) := by decide +kernel
theorem dX8_set_24 : decode cX8_set 24 = .ok (.bipush (-2), 2) := by decide +kernel
theorem dX8_set_26 : decode cX8_set 26 = .ok (.ireturn, 1) := by decide +kernel
theorem dX8_set_27 : decode cX8_set 27 = .ok (.aload_n 0, 1) := by decide +kernel
theorem dX8_set_28 : decode cX8_set 28 = .ok (.invokevirtual 47, 3) := by decide +kernel
theorem dX8_set_31 : decode cX8_set 31 = .ok (.aload_n 0, 1) := by decide +kernel
theorem dX8_set_32 : decode cX8_set 32 = .ok (.getfield 7, 3) := by decide +kernel
theorem dX8_set_35 : decode cX8_set 35 = .ok (.iload_n 1, 1) := by decide +kernel
theorem dX8_set_36 : decode cX8_set 36 = .ok (.iaload, 1) := by decide +kernel
theorem dX8_set_37 : decode cX8_set 37 = .ok (.istore_n 3, 1) := by decide +kernel
theorem dX8_set_38 : decode cX8_set 38 = .ok (.aload_n 0, 1) := by decide +kernel
theorem dX8_set_39 : decode cX8_set 39 = .ok (.getfield 7, 3) := by decide +kernel
theorem dX8_set_42 : decode cX8_set 42 = .ok (.iload_n 1, 1) := by decide +kernel
theorem dX8_set_43 : decode cX8_set 43 = .ok (.iload_n 2, 1) := by decide +kernel
theorem dX8_set_44 : decode cX8_set 44 = .ok (.iastore, 1) := by decide +kernel
theorem dX8_set_45 : decode cX8_set 45 = .ok (.aload_n 0, 1) := by decide +kernel
theorem dX8_set_46 : decode cX8_set 46 = .ok (.iload_n 3, 1) := by decide +kernel
theorem dX8_set_47 : decode cX8_set 47 = .ok (.invokevirtual 106, 3) := by decide +kernel
theorem dX8_set_50 : decode cX8_set 50 = .ok (.ireturn, 1) := by decide +kernel
set_option maxRecDepth 20000 in
theorem ggX8_loud_X8_isSeat : GoodIn wsX8_loud wsX8_isSeat := goodIn_r _ [4, 5, 6, 3, 7] (by decide +kernel) (by decide +kernel)
set_option maxRecDepth 20000 in
theorem gX8_loud_X8_isSeat : GoodIn wsX8_loud (va_wsS RX8 65 yX8_isSeat wsX8_isSeat) := goodIn_app (goodIn_of _ (by decide +kernel)) ggX8_loud_X8_isSeat
set_option maxRecDepth 20000 in
theorem ggX8_loud_X8_within : GoodIn wsX8_loud wsX8_within := goodIn_r _ [7] (by decide +kernel) (by decide +kernel)
set_option maxRecDepth 20000 in
theorem gX8_loud_X8_within : GoodIn wsX8_loud (va_wsS RX8 32 yX8_within wsX8_within) := goodIn_app (goodIn_of _ (by decide +kernel)) ggX8_loud_X8_within
set_option maxRecDepth 20000 in
theorem ggX8_loud_X8_putAside : GoodIn wsX8_loud wsX8_putAside := goodIn_r _ [11, 12, 13, 32, 33, 34, 35, 36, 37, 38, 39, 40, 41, 42, 43] (by decide +kernel) (by decide +kernel)
set_option maxRecDepth 20000 in
theorem gX8_loud_X8_putAside : GoodIn wsX8_loud (wsV RX8 47 RX8 yX8_putAside wsX8_putAside) := goodIn_app (goodIn_of _ (by decide +kernel)) ggX8_loud_X8_putAside
set_option maxRecDepth 20000 in
theorem ggX8_loud_X8_seat : GoodIn wsX8_loud wsX8_seat := goodIn_r _ [17, 13, 32, 33, 34, 35, 36, 37, 38, 39, 40, 41, 42, 43] (by decide +kernel) (by decide +kernel)
set_option maxRecDepth 20000 in
theorem gX8_loud_X8_seat : GoodIn wsX8_loud (wsV RX8 61 RX8 yX8_seat wsX8_seat) := goodIn_app (goodIn_of _ (by decide +kernel)) ggX8_loud_X8_seat
set_option maxRecDepth 20000 in
theorem ggX8_loud_X8_setSeat : GoodIn wsX8_loud wsX8_setSeat := goodIn_r _ [21, 13, 32, 33, 34, 35, 36, 37, 38, 39, 40, 41, 42, 43] (by decide +kernel) (by decide +kernel)
set_option maxRecDepth 20000 in
theorem gX8_loud_X8_setSeat : GoodIn wsX8_loud (wsV RX8 28 RX8 yX8_setSeat wsX8_setSeat) := goodIn_app (goodIn_of _ (by decide +kernel)) ggX8_loud_X8_setSeat
set_option maxRecDepth 20000 in
theorem ggX8_loud_X8_recorded : GoodIn wsX8_loud wsX8_recorded := goodIn_r _ [25, 26, 27, 28, 3, 29, 30, 31, 12, 32, 33, 34, 35, 36, 37, 38, 39, 40, 41, 42, 43] (by decide +kernel) (by decide +kernel)
set_option maxRecDepth 20000 in
theorem gX8_loud_X8_recorded : GoodIn wsX8_loud (wsV RX8 106 RX8 yX8_recorded wsX8_recorded) := goodIn_app (goodIn_of _ (by decide +kernel)) ggX8_loud_X8_recorded
theorem dX8_loud_0 : decode cX8_loud 0 = .ok (.iload_n 1, 1) := by decide +kernel
theorem dX8_loud_1 : decode cX8_loud 1 = .ok (.invokestatic 65, 3) := by decide +kernel
theorem dX8_loud_4 : decode cX8_loud 4 = .ok (.ifCond .ne 5, 3) := by decide +kernel
theorem dX8_loud_7 : decode cX8_loud 7 = .ok (.iconst (-1), 1) := by decide +kernel
theorem dX8_loud_8 : decode cX8_loud 8 = .ok (.ireturn, 1) := by decide +kernel
theorem dX8_loud_9 : decode cX8_loud 9 = .ok (.iload_n 2, 1) := by decide +kernel
theorem dX8_loud_10 : decode cX8_loud 10 = .ok (.iconst 1, 1) := by decide +kernel
theorem dX8_loud_11 : decode cX8_loud 11 = .ok (.bipush 9, 2) := by decide +kernel
theorem dX8_loud_13 : decode cX8_loud 13 = .ok (.invokestatic 32, 3) := by decide +kernel
theorem dX8_loud_16 : decode cX8_loud 16 = .ok (.ifCond .ne 6, 3) := by decide +kernel
theorem dX8_loud_19 : decode cX8_loud 19 = .ok (.bipush (-2), 2) := by decide +kernel
theorem dX8_loud_21 : decode cX8_loud 21 = .ok (.ireturn, 1) := by decide +kernel
theorem dX8_loud_22 : decode cX8_loud 22 = .ok (.aload_n 0, 1) := by decide +kernel
theorem dX8_loud_23 : decode cX8_loud 23 = .ok (.invokevirtual 47, 3) := by decide +kernel
theorem dX8_loud_26 : decode cX8_loud 26 = .ok (.aload_n 0, 1) := by decide +kernel
theorem dX8_loud_27 : decode cX8_loud 27 = .ok (.iload_n 1, 1) := by decide +kernel
theorem dX8_loud_28 : decode cX8_loud 28 = .ok (.iconst 0, 1) := by decide +kernel
theorem dX8_loud_29 : decode cX8_loud 29 = .ok (.invokevirtual 61, 3) := by decide +kernel
theorem dX8_loud_32 : decode cX8_loud 32 = .ok (.istore_n 3, 1) := by decide +kernel
theorem dX8_loud_33 : decode cX8_loud 33 = .ok (.aload_n 0, 1) := by decide +kernel
theorem dX8_loud_34 : decode cX8_loud 34 = .ok (.iload_n 1, 1) := by decide +kernel
theorem dX8_loud_35 : decode cX8_loud 35 = .ok (.iconst 0, 1) := by decide +kernel
theorem dX8_loud_36 : decode cX8_loud 36 = .ok (.iload_n 2, 1) := by decide +kernel
theorem dX8_loud_37 : decode cX8_loud 37 = .ok (.invokevirtual 28, 3) := by decide +kernel
theorem dX8_loud_40 : decode cX8_loud 40 = .ok (.aload_n 0, 1) := by decide +kernel
theorem dX8_loud_41 : decode cX8_loud 41 = .ok (.iload_n 3, 1) := by decide +kernel
theorem dX8_loud_42 : decode cX8_loud 42 = .ok (.invokevirtual 106, 3) := by decide +kernel
theorem dX8_loud_45 : decode cX8_loud 45 = .ok (.ireturn, 1) := by decide +kernel
set_option maxRecDepth 20000 in
theorem ggX8_pay_X8_putAside : GoodIn wsX8_pay wsX8_putAside := goodIn_r _ [5, 6, 7, 40, 41, 42, 43, 44, 45, 46, 47, 48, 49, 50, 51] (by decide +kernel) (by decide +kernel)
set_option maxRecDepth 20000 in
theorem gX8_pay_X8_putAside : GoodIn wsX8_pay (wsV RX8 47 RX8 yX8_putAside wsX8_putAside) := goodIn_app (goodIn_of _ (by decide +kernel)) ggX8_pay_X8_putAside
set_option maxRecDepth 20000 in
theorem ggX8_pay_X8_doPay : GoodIn wsX8_pay wsX8_doPay := goodIn_r _ [11, 12, 13, 4, 14, 15, 16, 17, 18, 19, 20, 21, 7, 22, 23, 24, 25, 26, 27, 28, 29, 40, 41, 42, 43, 44, 45, 46, 47, 48, 49, 50, 51] (by decide +kernel) (by decide +kernel)
set_option maxRecDepth 20000 in
theorem gX8_pay_X8_doPay : GoodIn wsX8_pay (wsV RX8 109 RX8 yX8_doPay wsX8_doPay) := goodIn_app (goodIn_of _ (by decide +kernel)) ggX8_pay_X8_doPay
set_option maxRecDepth 20000 in
theorem ggX8_pay_X8_recorded : GoodIn wsX8_pay wsX8_recorded := goodIn_r _ [33, 34, 35, 36, 4, 37, 38, 39, 6, 40, 41, 42, 43, 44, 45, 46, 47, 48, 49, 50, 51] (by decide +kernel) (by decide +kernel)
set_option maxRecDepth 20000 in
theorem gX8_pay_X8_recorded : GoodIn wsX8_pay (wsV RX8 106 RX8 yX8_recorded wsX8_recorded) := goodIn_app (goodIn_of _ (by decide +kernel)) ggX8_pay_X8_recorded
theorem dX8_pay_0 : decode cX8_pay 0 = .ok (.aload_n 0, 1) := by decide +kernel
theorem dX8_pay_1 : decode cX8_pay 1 = .ok (.invokevirtual 47, 3) := by decide +kernel
theorem dX8_pay_4 : decode cX8_pay 4 = .ok (.aload_n 0, 1) := by decide +kernel
theorem dX8_pay_5 : decode cX8_pay 5 = .ok (.aload_n 0, 1) := by decide +kernel
theorem dX8_pay_6 : decode cX8_pay 6 = .ok (.iload_n 1, 1) := by decide +kernel
theorem dX8_pay_7 : decode cX8_pay 7 = .ok (.invokevirtual 109, 3) := by decide +kernel
theorem dX8_pay_10 : decode cX8_pay 10 = .ok (.invokevirtual 106, 3) := by decide +kernel
theorem dX8_pay_13 : decode cX8_pay 13 = .ok (.ireturn, 1) := by decide +kernel
set_option maxRecDepth 20000 in
theorem ggX8_ends_X8_putAside : GoodIn wsX8_ends wsX8_putAside := goodIn_r _ [5, 6, 7, 36, 37, 38, 39, 40, 41, 42, 43, 44, 45, 46, 47] (by decide +kernel) (by decide +kernel)
set_option maxRecDepth 20000 in
theorem gX8_ends_X8_putAside : GoodIn wsX8_ends (wsV RX8 47 RX8 yX8_putAside wsX8_putAside) := goodIn_app (goodIn_of _ (by decide +kernel)) ggX8_ends_X8_putAside
set_option maxRecDepth 20000 in
theorem ggX8_ends_X8_doEnds : GoodIn wsX8_ends wsX8_doEnds := goodIn_r _ [11, 12, 13, 4, 14, 15, 16, 17, 18, 19, 20, 21, 7, 22, 23, 24, 25, 36, 37, 38, 39, 40, 41, 42, 43, 44, 45, 46, 47] (by decide +kernel) (by decide +kernel)
set_option maxRecDepth 20000 in
theorem gX8_ends_X8_doEnds : GoodIn wsX8_ends (wsV RX8 112 RX8 yX8_doEnds wsX8_doEnds) := goodIn_app (goodIn_of _ (by decide +kernel)) ggX8_ends_X8_doEnds
set_option maxRecDepth 20000 in
theorem ggX8_ends_X8_recorded : GoodIn wsX8_ends wsX8_recorded := goodIn_r _ [29, 30, 31, 32, 4, 33, 34, 35, 6, 36, 37, 38, 39, 40, 41, 42, 43, 44, 45, 46, 47] (by decide +kernel) (by decide +kernel)
set_option maxRecDepth 20000 in
theorem gX8_ends_X8_recorded : GoodIn wsX8_ends (wsV RX8 106 RX8 yX8_recorded wsX8_recorded) := goodIn_app (goodIn_of _ (by decide +kernel)) ggX8_ends_X8_recorded
theorem dX8_ends_0 : decode cX8_ends 0 = .ok (.aload_n 0, 1) := by decide +kernel
theorem dX8_ends_1 : decode cX8_ends 1 = .ok (.invokevirtual 47, 3) := by decide +kernel
theorem dX8_ends_4 : decode cX8_ends 4 = .ok (.aload_n 0, 1) := by decide +kernel
theorem dX8_ends_5 : decode cX8_ends 5 = .ok (.aload_n 0, 1) := by decide +kernel
theorem dX8_ends_6 : decode cX8_ends 6 = .ok (.iload_n 1, 1) := by decide +kernel
theorem dX8_ends_7 : decode cX8_ends 7 = .ok (.invokevirtual 112, 3) := by decide +kernel
theorem dX8_ends_10 : decode cX8_ends 10 = .ok (.invokevirtual 106, 3) := by decide +kernel
theorem dX8_ends_13 : decode cX8_ends 13 = .ok (.ireturn, 1) := by decide +kernel
set_option maxRecDepth 20000 in
theorem ggX8_clap_X8_putAside : GoodIn wsX8_clap wsX8_putAside := goodIn_r _ [5, 6, 7, 48, 49, 50, 51, 52, 53, 54, 55, 56, 57, 58, 59] (by decide +kernel) (by decide +kernel)
set_option maxRecDepth 20000 in
theorem gX8_clap_X8_putAside : GoodIn wsX8_clap (wsV RX8 47 RX8 yX8_putAside wsX8_putAside) := goodIn_app (goodIn_of _ (by decide +kernel)) ggX8_clap_X8_putAside
set_option maxRecDepth 20000 in
theorem ggX8_clap_X8_doClap : GoodIn wsX8_clap wsX8_doClap := goodIn_r _ [11, 7, 12, 13, 4, 14, 15, 16, 17, 18, 19, 20, 21, 22, 23, 24, 25, 26, 27, 28, 29, 30, 31, 32, 33, 34, 35, 36, 37, 48, 49, 50, 51, 52, 53, 54, 55, 56, 57, 58, 59] (by decide +kernel) (by decide +kernel)
set_option maxRecDepth 20000 in
theorem gX8_clap_X8_doClap : GoodIn wsX8_clap (wsV RX8 115 RX8 yX8_doClap wsX8_doClap) := goodIn_app (goodIn_of _ (by decide +kernel)) ggX8_clap_X8_doClap
set_option maxRecDepth 20000 in
theorem ggX8_clap_X8_recorded : GoodIn wsX8_clap wsX8_recorded := goodIn_r _ [41, 42, 43, 44, 4, 45, 46, 47, 6, 48, 49, 50, 51, 52, 53, 54, 55, 56, 57, 58, 59] (by decide +kernel) (by decide +kernel)
set_option maxRecDepth 20000 in
theorem gX8_clap_X8_recorded : GoodIn wsX8_clap (wsV RX8 106 RX8 yX8_recorded wsX8_recorded) := goodIn_app (goodIn_of _ (by decide +kernel)) ggX8_clap_X8_recorded
theorem dX8_clap_0 : decode cX8_clap 0 = .ok (.aload_n 0, 1) := by decide +kernel
theorem dX8_clap_1 : decode cX8_clap 1 = .ok (.invokevirtual 47, 3) := by decide +kernel
theorem dX8_clap_4 : decode cX8_clap 4 = .ok (.aload_n 0, 1) := by decide +kernel
theorem dX8_clap_5 : decode cX8_clap 5 = .ok (.aload_n 0, 1) := by decide +kernel
theorem dX8_clap_6 : decode cX8_clap 6 = .ok (.iload_n 1, 1) := by decide +kernel
theorem dX8_clap_7 : decode cX8_clap 7 = .ok (.invokevirtual 115, 3) := by decide +kernel
theorem dX8_clap_10 : decode cX8_clap 10 = .ok (.invokevirtual 106, 3) := by decide +kernel
theorem dX8_clap_13 : decode cX8_clap 13 = .ok (.ireturn, 1) := by decide +kernel
set_option maxRecDepth 20000 in
theorem ggX8_pass_X8_putAside : GoodIn wsX8_pass wsX8_putAside := goodIn_r _ [5, 6, 7, 46, 47, 48, 49, 50, 51, 52, 53, 54, 55, 56, 57] (by decide +kernel) (by decide +kernel)
set_option maxRecDepth 20000 in
theorem gX8_pass_X8_putAside : GoodIn wsX8_pass (wsV RX8 47 RX8 yX8_putAside wsX8_putAside) := goodIn_app (goodIn_of _ (by decide +kernel)) ggX8_pass_X8_putAside
set_option maxRecDepth 20000 in
theorem ggX8_pass_X8_doPass : GoodIn wsX8_pass wsX8_doPass := goodIn_r _ [11, 7, 12, 13, 14, 4, 15, 16, 17, 18, 19, 20, 21, 22, 23, 24, 25, 26, 27, 28, 29, 30, 31, 32, 33, 34, 35, 46, 47, 48, 49, 50, 51, 52, 53, 54, 55, 56, 57] (by decide +kernel) (by decide +kernel)
set_option maxRecDepth 20000 in
theorem gX8_pass_X8_doPass : GoodIn wsX8_pass (wsV RX8 118 RX8 yX8_doPass wsX8_doPass) := goodIn_app (goodIn_of _ (by decide +kernel)) ggX8_pass_X8_doPass
set_option maxRecDepth 20000 in
theorem ggX8_pass_X8_recorded : GoodIn wsX8_pass wsX8_recorded := goodIn_r _ [39, 40, 41, 42, 4, 43, 44, 45, 6, 46, 47, 48, 49, 50, 51, 52, 53, 54, 55, 56, 57] (by decide +kernel) (by decide +kernel)
set_option maxRecDepth 20000 in
theorem gX8_pass_X8_recorded : GoodIn wsX8_pass (wsV RX8 106 RX8 yX8_recorded wsX8_recorded) := goodIn_app (goodIn_of _ (by decide +kernel)) ggX8_pass_X8_recorded
theorem dX8_pass_0 : decode cX8_pass 0 = .ok (.aload_n 0, 1) := by decide +kernel
theorem dX8_pass_1 : decode cX8_pass 1 = .ok (.invokevirtual 47, 3) := by decide +kernel
theorem dX8_pass_4 : decode cX8_pass 4 = .ok (.aload_n 0, 1) := by decide +kernel
theorem dX8_pass_5 : decode cX8_pass 5 = .ok (.aload_n 0, 1) := by decide +kernel
theorem dX8_pass_6 : decode cX8_pass 6 = .ok (.iload_n 1, 1) := by decide +kernel
theorem dX8_pass_7 : decode cX8_pass 7 = .ok (.invokevirtual 118, 3) := by decide +kernel
theorem dX8_pass_10 : decode cX8_pass 10 = .ok (.invokevirtual 106, 3) := by decide +kernel
theorem dX8_pass_13 : decode cX8_pass 13 = .ok (.ireturn, 1) := by decide +kernel
set_option maxRecDepth 20000 in
theorem ggX8_play_X8_putAside : GoodIn wsX8_play wsX8_putAside := goodIn_r _ [5, 6, 7, 48, 49, 50, 51, 52, 53, 54, 55, 56, 57, 58, 59] (by decide +kernel) (by decide +kernel)
set_option maxRecDepth 20000 in
theorem gX8_play_X8_putAside : GoodIn wsX8_play (wsV RX8 47 RX8 yX8_putAside wsX8_putAside) := goodIn_app (goodIn_of _ (by decide +kernel)) ggX8_play_X8_putAside
set_option maxRecDepth 20000 in
theorem ggX8_play_X8_doPlay : GoodIn wsX8_play wsX8_doPlay := goodIn_r _ [11, 7, 12, 13, 4, 14, 15, 16, 17, 18, 19, 20, 21, 22, 23, 24, 25, 26, 27, 28, 29, 30, 31, 32, 33, 34, 35, 36, 37, 48, 49, 50, 51, 52, 53, 54, 55, 56, 57, 58, 59] (by decide +kernel) (by decide +kernel)
set_option maxRecDepth 20000 in
theorem gX8_play_X8_doPlay : GoodIn wsX8_play (wsV RX8 121 RX8 yX8_doPlay wsX8_doPlay) := goodIn_app (goodIn_of _ (by decide +kernel)) ggX8_play_X8_doPlay
set_option maxRecDepth 20000 in
theorem ggX8_play_X8_recorded : GoodIn wsX8_play wsX8_recorded := goodIn_r _ [41, 42, 43, 44, 4, 45, 46, 47, 6, 48, 49, 50, 51, 52, 53, 54, 55, 56, 57, 58, 59] (by decide +kernel) (by decide +kernel)
set_option maxRecDepth 20000 in
theorem gX8_play_X8_recorded : GoodIn wsX8_play (wsV RX8 106 RX8 yX8_recorded wsX8_recorded) := goodIn_app (goodIn_of _ (by decide +kernel)) ggX8_play_X8_recorded
theorem dX8_play_0 : decode cX8_play 0 = .ok (.aload_n 0, 1) := by decide +kernel
theorem dX8_play_1 : decode cX8_play 1 = .ok (.invokevirtual 47, 3) := by decide +kernel
theorem dX8_play_4 : decode cX8_play 4 = .ok (.aload_n 0, 1) := by decide +kernel
theorem dX8_play_5 : decode cX8_play 5 = .ok (.aload_n 0, 1) := by decide +kernel
theorem dX8_play_6 : decode cX8_play 6 = .ok (.iload_n 1, 1) := by decide +kernel
theorem dX8_play_7 : decode cX8_play 7 = .ok (.invokevirtual 121, 3) := by decide +kernel
theorem dX8_play_10 : decode cX8_play 10 = .ok (.invokevirtual 106, 3) := by decide +kernel
theorem dX8_play_13 : decode cX8_play 13 = .ok (.ireturn, 1) := by decide +kernel
set_option maxRecDepth 20000 in
theorem ggX8_call_X8_putAside : GoodIn wsX8_call wsX8_putAside := goodIn_r _ [5, 6, 7, 22, 23, 24, 25, 26, 27, 28, 29, 30, 31, 32, 33] (by decide +kernel) (by decide +kernel)
set_option maxRecDepth 20000 in
theorem gX8_call_X8_putAside : GoodIn wsX8_call (wsV RX8 47 RX8 yX8_putAside wsX8_putAside) := goodIn_app (goodIn_of _ (by decide +kernel)) ggX8_call_X8_putAside
set_option maxRecDepth 20000 in
theorem ggX8_call_X8_doCall : GoodIn wsX8_call wsX8_doCall := goodIn_r _ [11, 7, 22, 23, 24, 25, 26, 27, 28, 29, 30, 31, 32, 33] (by decide +kernel) (by decide +kernel)
set_option maxRecDepth 20000 in
theorem gX8_call_X8_doCall : GoodIn wsX8_call (wsV RX8 124 RX8 yX8_doCall wsX8_doCall) := goodIn_app (goodIn_of _ (by decide +kernel)) ggX8_call_X8_doCall
set_option maxRecDepth 20000 in
theorem ggX8_call_X8_recorded : GoodIn wsX8_call wsX8_recorded := goodIn_r _ [15, 16, 17, 18, 4, 19, 20, 21, 6, 22, 23, 24, 25, 26, 27, 28, 29, 30, 31, 32, 33] (by decide +kernel) (by decide +kernel)
set_option maxRecDepth 20000 in
theorem gX8_call_X8_recorded : GoodIn wsX8_call (wsV RX8 106 RX8 yX8_recorded wsX8_recorded) := goodIn_app (goodIn_of _ (by decide +kernel)) ggX8_call_X8_recorded
theorem dX8_call_0 : decode cX8_call 0 = .ok (.aload_n 0, 1) := by decide +kernel
theorem dX8_call_1 : decode cX8_call 1 = .ok (.invokevirtual 47, 3) := by decide +kernel
theorem dX8_call_4 : decode cX8_call 4 = .ok (.aload_n 0, 1) := by decide +kernel
theorem dX8_call_5 : decode cX8_call 5 = .ok (.aload_n 0, 1) := by decide +kernel
theorem dX8_call_6 : decode cX8_call 6 = .ok (.invokevirtual 124, 3) := by decide +kernel
theorem dX8_call_9 : decode cX8_call 9 = .ok (.invokevirtual 106, 3) := by decide +kernel
theorem dX8_call_12 : decode cX8_call 12 = .ok (.ireturn, 1) := by decide +kernel
set_option maxRecDepth 20000 in
theorem ggX8_night_X8_putAside : GoodIn wsX8_night wsX8_putAside := goodIn_r _ [5, 6, 7, 34, 35, 36, 37, 38, 39, 40, 41, 42, 43, 44, 45] (by decide +kernel) (by decide +kernel)
set_option maxRecDepth 20000 in
theorem gX8_night_X8_putAside : GoodIn wsX8_night (wsV RX8 47 RX8 yX8_putAside wsX8_putAside) := goodIn_app (goodIn_of _ (by decide +kernel)) ggX8_night_X8_putAside
set_option maxRecDepth 20000 in
theorem ggX8_night_X8_doNight : GoodIn wsX8_night wsX8_doNight := goodIn_r _ [11, 7, 12, 13, 14, 4, 15, 16, 17, 18, 19, 20, 21, 22, 23, 34, 35, 36, 37, 38, 39, 40, 41, 42, 43, 44, 45] (by decide +kernel) (by decide +kernel)
set_option maxRecDepth 20000 in
theorem gX8_night_X8_doNight : GoodIn wsX8_night (wsV RX8 128 RX8 yX8_doNight wsX8_doNight) := goodIn_app (goodIn_of _ (by decide +kernel)) ggX8_night_X8_doNight
set_option maxRecDepth 20000 in
theorem ggX8_night_X8_recorded : GoodIn wsX8_night wsX8_recorded := goodIn_r _ [27, 28, 29, 30, 4, 31, 32, 33, 6, 34, 35, 36, 37, 38, 39, 40, 41, 42, 43, 44, 45] (by decide +kernel) (by decide +kernel)
set_option maxRecDepth 20000 in
theorem gX8_night_X8_recorded : GoodIn wsX8_night (wsV RX8 106 RX8 yX8_recorded wsX8_recorded) := goodIn_app (goodIn_of _ (by decide +kernel)) ggX8_night_X8_recorded
theorem dX8_night_0 : decode cX8_night 0 = .ok (.aload_n 0, 1) := by decide +kernel
theorem dX8_night_1 : decode cX8_night 1 = .ok (.invokevirtual 47, 3) := by decide +kernel
theorem dX8_night_4 : decode cX8_night 4 = .ok (.aload_n 0, 1) := by decide +kernel
theorem dX8_night_5 : decode cX8_night 5 = .ok (.aload_n 0, 1) := by decide +kernel
theorem dX8_night_6 : decode cX8_night 6 = .ok (.invokevirtual 128, 3) := by decide +kernel
theorem dX8_night_9 : decode cX8_night 9 = .ok (.invokevirtual 106, 3) := by decide +kernel
theorem dX8_night_12 : decode cX8_night 12 = .ok (.ireturn, 1) := by decide +kernel
theorem dX8_writeSign_0 : decode cX8_writeSign 0 = .ok (.aload_n 0, 1) := by decide +kernel
theorem dX8_writeSign_1 : decode cX8_writeSign 1 = .ok (.getfield 25, 3) := by decide +kernel
theorem dX8_writeSign_4 : decode cX8_writeSign 4 = .ok (.aload_n 0, 1) := by decide +kernel
theorem dX8_writeSign_5 : decode cX8_writeSign 5 = .ok (.getfield 131, 3) := by decide +kernel
theorem dX8_writeSign_8 : decode cX8_writeSign 8 = .ok (.iload_n 1, 1) := by decide +kernel
theorem dX8_writeSign_9 : decode cX8_writeSign 9 = .ok (.iastore, 1) := by decide +kernel
theorem dX8_writeSign_10 : decode cX8_writeSign 10 = .ok (.aload_n 0, 1) := by decide +kernel
theorem dX8_writeSign_11 : decode cX8_writeSign 11 = .ok (.dup, 1) := by decide +kernel
theorem dX8_writeSign_12 : decode cX8_writeSign 12 = .ok (.getfield 131, 3) := by decide +kernel
theorem dX8_writeSign_15 : decode cX8_writeSign 15 = .ok (.iconst 1, 1) := by decide +kernel
theorem dX8_writeSign_16 : decode cX8_writeSign 16 = .ok (.iadd, 1) := by decide +kernel
theorem dX8_writeSign_17 : decode cX8_writeSign 17 = .ok (.putfield 131, 3) := by decide +kernel
theorem dX8_writeSign_20 : decode cX8_writeSign 20 = .ok (.return_, 1) := by decide +kernel
set_option maxRecDepth 20000 in
theorem ggX8_writeNumber_X8_writeSign : GoodIn wsX8_writeNumber wsX8_writeSign := goodIn_r _ [5, 6, 7, 8, 9, 10, 11, 12, 13, 14, 15, 16, 17, 18, 19] (by decide +kernel) (by decide +kernel)
set_option maxRecDepth 20000 in
theorem gX8_writeNumber_X8_writeSign : GoodIn wsX8_writeNumber (wsV RX8 134 RX8 yX8_writeSign wsX8_writeSign) := goodIn_app (goodIn_of _ (by decide +kernel)) ggX8_writeNumber_X8_writeSign
theorem dX8_writeNumber_0 : decode cX8_writeNumber 0 = .ok (.iconst 1, 1) := by decide +kernel
theorem dX8_writeNumber_1 : decode cX8_writeNumber 1 = .ok (.istore_n 2, 1) := by decide +kernel
theorem dX8_writeNumber_2 : decode cX8_writeNumber 2 = .ok (.iload_n 1, 1) := by decide +kernel
theorem dX8_writeNumber_3 : decode cX8_writeNumber 3 = .ok (.iload_n 2, 1) := by decide +kernel
theorem dX8_writeNumber_4 : decode cX8_writeNumber 4 = .ok (.idiv, 1) := by decide +kernel
theorem dX8_writeNumber_5 : decode cX8_writeNumber 5 = .ok (.bipush 9, 2) := by decide +kernel
theorem dX8_writeNumber_7 : decode cX8_writeNumber 7 = .ok (.if_icmp .le 11, 3) := by decide +kernel
theorem dX8_writeNumber_10 : decode cX8_writeNumber 10 = .ok (.iload_n 2, 1) := by decide +kernel
theorem dX8_writeNumber_11 : decode cX8_writeNumber 11 = .ok (.bipush 10, 2) := by decide +kernel
theorem dX8_writeNumber_13 : decode cX8_writeNumber 13 = .ok (.imul, 1) := by decide +kernel
theorem dX8_writeNumber_14 : decode cX8_writeNumber 14 = .ok (.istore_n 2, 1) := by decide +kernel
theorem dX8_writeNumber_15 : decode cX8_writeNumber 15 = .ok (.goto (-13), 3) := by decide +kernel
theorem dX8_writeNumber_18 : decode cX8_writeNumber 18 = .ok (.iload_n 2, 1) := by decide +kernel
theorem dX8_writeNumber_19 : decode cX8_writeNumber 19 = .ok (.ifCond .le 24, 3) := by decide +kernel
theorem dX8_writeNumber_22 : decode cX8_writeNumber 22 = .ok (.aload_n 0, 1) := by decide +kernel
theorem dX8_writeNumber_23 : decode cX8_writeNumber 23 = .ok (.bipush 48, 2) := by decide +kernel
theorem dX8_writeNumber_25 : decode cX8_writeNumber 25 = .ok (.iload_n 1, 1) := by decide +kernel
theorem dX8_writeNumber_26 : decode cX8_writeNumber 26 = .ok (.iload_n 2, 1) := by decide +kernel
theorem dX8_writeNumber_27 : decode cX8_writeNumber 27 = .ok (.idiv, 1) := by decide +kernel
theorem dX8_writeNumber_28 : decode cX8_writeNumber 28 = .ok (.bipush 10, 2) := by decide +kernel
theorem dX8_writeNumber_30 : decode cX8_writeNumber 30 = .ok (.irem, 1) := by decide +kernel
theorem dX8_writeNumber_31 : decode cX8_writeNumber 31 = .ok (.iadd, 1) := by decide +kernel
theorem dX8_writeNumber_32 : decode cX8_writeNumber 32 = .ok (.invokevirtual 134, 3) := by decide +kernel
theorem dX8_writeNumber_35 : decode cX8_writeNumber 35 = .ok (.iload_n 2, 1) := by decide +kernel
theorem dX8_writeNumber_36 : decode cX8_writeNumber 36 = .ok (.bipush 10, 2) := by decide +kernel
theorem dX8_writeNumber_38 : decode cX8_writeNumber 38 = .ok (.idiv, 1) := by decide +kernel
theorem dX8_writeNumber_39 : decode cX8_writeNumber 39 = .ok (.istore_n 2, 1) := by decide +kernel
theorem dX8_writeNumber_40 : decode cX8_writeNumber 40 = .ok (.goto (-22), 3) := by decide +kernel
theorem dX8_writeNumber_43 : decode cX8_writeNumber 43 = .ok (.return_, 1) := by decide +kernel
set_option maxRecDepth 20000 in
theorem ggX8_write_X8_writeSign : GoodIn wsX8_write wsX8_writeSign := goodIn_r _ [7, 8, 1, 17, 18, 19, 20, 21, 22, 23, 24, 25, 26, 27, 28] (by decide +kernel) (by decide +kernel)
set_option maxRecDepth 20000 in
theorem gX8_write_X8_writeSign : GoodIn wsX8_write (wsV RX8 134 RX8 yX8_writeSign wsX8_writeSign) := goodIn_app (goodIn_of _ (by decide +kernel)) ggX8_write_X8_writeSign
set_option maxRecDepth 20000 in
theorem ggX8_write_X8_writeNumber : GoodIn wsX8_write wsX8_writeNumber := goodIn_r _ [12, 3, 4, 5, 6, 7, 8, 1, 17, 18, 19, 20, 21, 22, 23, 24, 25, 26, 27, 28] (by decide +kernel) (by decide +kernel)
set_option maxRecDepth 20000 in
theorem gX8_write_X8_writeNumber : GoodIn wsX8_write (wsV RX8 137 RX8 yX8_writeNumber wsX8_writeNumber) := goodIn_app (goodIn_of _ (by decide +kernel)) ggX8_write_X8_writeNumber
set_option maxRecDepth 20000 in
theorem ggX8_write_X8_owes : GoodIn wsX8_write wsX8_owes := goodIn_r _ [16, 2, 17, 18, 19, 20, 21, 22, 23, 24, 25, 26, 27, 28] (by decide +kernel) (by decide +kernel)
set_option maxRecDepth 20000 in
theorem gX8_write_X8_owes : GoodIn wsX8_write (wsV RX8 90 RX8 yX8_owes wsX8_owes) := goodIn_app (goodIn_of _ (by decide +kernel)) ggX8_write_X8_owes
theorem dX8_write_0 : decode cX8_write 0 = .ok (.aload_n 0, 1) := by decide +kernel
theorem dX8_write_1 : decode cX8_write 1 = .ok (.iconst 0, 1) := by decide +kernel
theorem dX8_write_2 : decode cX8_write 2 = .ok (.putfield 131, 3) := by decide +kernel
theorem dX8_write_5 : decode cX8_write 5 = .ok (.aload_n 0, 1) := by decide +kernel
theorem dX8_write_6 : decode cX8_write 6 = .ok (.bipush 99, 2) := by decide +kernel
theorem dX8_write_8 : decode cX8_write 8 = .ok (.invokevirtual 134, 3) := by decide +kernel
theorem dX8_write_11 : decode cX8_write 11 = .ok (.aload_n 0, 1) := by decide +kernel
theorem dX8_write_12 : decode cX8_write 12 = .ok (.aload_n 0, 1) := by decide +kernel
theorem dX8_write_13 : decode cX8_write 13 = .ok (.getfield 7, 3) := by decide +kernel
theorem dX8_write_16 : decode cX8_write 16 = .ok (.bipush 9, 2) := by decide +kernel
theorem dX8_write_18 : decode cX8_write 18 = .ok (.iaload, 1) := by decide +kernel
theorem dX8_write_19 : decode cX8_write 19 = .ok (.invokevirtual 137, 3) := by decide +kernel
theorem dX8_write_22 : decode cX8_write 22 = .ok (.aload_n 0, 1) := by decide +kernel
theorem dX8_write_23 : decode cX8_write 23 = .ok (.bipush 101, 2) := by decide +kernel
theorem dX8_write_25 : decode cX8_write 25 = .ok (.invokevirtual 134, 3) := by decide +kernel
theorem dX8_write_28 : decode cX8_write 28 = .ok (.aload_n 0, 1) := by decide +kernel
theorem dX8_write_29 : decode cX8_write 29 = .ok (.aload_n 0, 1) := by decide +kernel
theorem dX8_write_30 : decode cX8_write 30 = .ok (.getfield 7, 3) := by decide +kernel
theorem dX8_write_33 : decode cX8_write 33 = .ok (.bipush 10, 2) := by decide +kernel
theorem dX8_write_35 : decode cX8_write 35 = .ok (.iaload, 1) := by decide +kernel
theorem dX8_write_36 : decode cX8_write 36 = .ok (.invokevirtual 137, 3) := by decide +kernel
theorem dX8_write_39 : decode cX8_write 39 = .ok (.aload_n 0, 1) := by decide +kernel
theorem dX8_write_40 : decode cX8_write 40 = .ok (.bipush 108, 2) := by decide +kernel
theorem dX8_write_42 : decode cX8_write 42 = .ok (.invokevirtual 134, 3) := by decide +kernel
theorem dX8_write_45 : decode cX8_write 45 = .ok (.aload_n 0, 1) := by decide +kernel
theorem dX8_write_46 : decode cX8_write 46 = .ok (.aload_n 0, 1) := by decide +kernel
theorem dX8_write_47 : decode cX8_write 47 = .ok (.getfield 7, 3) := by decide +kernel
theorem dX8_write_50 : decode cX8_write 50 = .ok (.bipush 11, 2) := by decide +kernel
theorem dX8_write_52 : decode cX8_write 52 = .ok (.iaload, 1) := by decide +kernel
theorem dX8_write_53 : decode cX8_write 53 = .ok (.invokevirtual 137, 3) := by decide +kernel
theorem dX8_write_56 : decode cX8_write 56 = .ok (.aload_n 0, 1) := by decide +kernel
theorem dX8_write_57 : decode cX8_write 57 = .ok (.bipush 107, 2) := by decide +kernel
theorem dX8_write_59 : decode cX8_write 59 = .ok (.invokevirtual 134, 3) := by decide +kernel
theorem dX8_write_62 : decode cX8_write 62 = .ok (.aload_n 0, 1) := by decide +kernel
theorem dX8_write_63 : decode cX8_write 63 = .ok (.aload_n 0, 1) := by decide +kernel
theorem dX8_write_64 : decode cX8_write 64 = .ok (.getfield 7, 3) := by decide +kernel
theorem dX8_write_67 : decode cX8_write 67 = .ok (.bipush 12, 2) := by decide +kernel
theorem dX8_write_69 : decode cX8_write 69 = .ok (.iaload, 1) := by decide +kernel
theorem dX8_write_70 : decode cX8_write 70 = .ok (.invokevirtual 137, 3) := by decide +kernel
theorem dX8_write_73 : decode cX8_write 73 = .ok (.iconst 0, 1) := by decide +kernel
theorem dX8_write_74 : decode cX8_write 74 = .ok (.istore_n 1, 1) := by decide +kernel
theorem dX8_write_75 : decode cX8_write 75 = .ok (.iload_n 1, 1) := by decide +kernel
theorem dX8_write_76 : decode cX8_write 76 = .ok (.bipush 6, 2) := by decide +kernel
theorem dX8_write_78 : decode cX8_write 78 = .ok (.if_icmp .ge 43, 3) := by decide +kernel
theorem dX8_write_81 : decode cX8_write 81 = .ok (.aload_n 0, 1) := by decide +kernel
theorem dX8_write_82 : decode cX8_write 82 = .ok (.iload_n 1, 1) := by decide +kernel
theorem dX8_write_83 : decode cX8_write 83 = .ok (.invokevirtual 90, 3) := by decide +kernel
theorem dX8_write_86 : decode cX8_write 86 = .ok (.ifCond .le 29, 3) := by decide +kernel
theorem dX8_write_89 : decode cX8_write 89 = .ok (.aload_n 0, 1) := by decide +kernel
theorem dX8_write_90 : decode cX8_write 90 = .ok (.bipush 44, 2) := by decide +kernel
theorem dX8_write_92 : decode cX8_write 92 = .ok (.invokevirtual 134, 3) := by decide +kernel
theorem dX8_write_95 : decode cX8_write 95 = .ok (.aload_n 0, 1) := by decide +kernel
theorem dX8_write_96 : decode cX8_write 96 = .ok (.iload_n 1, 1) := by decide +kernel
theorem dX8_write_97 : decode cX8_write 97 = .ok (.invokevirtual 137, 3) := by decide +kernel
theorem dX8_write_100 : decode cX8_write 100 = .ok (.aload_n 0, 1) := by decide +kernel
theorem dX8_write_101 : decode cX8_write 101 = .ok (.bipush 58, 2) := by decide +kernel
theorem dX8_write_103 : decode cX8_write 103 = .ok (.invokevirtual 134, 3) := by decide +kernel
theorem dX8_write_106 : decode cX8_write 106 = .ok (.aload_n 0, 1) := by decide +kernel
theorem dX8_write_107 : decode cX8_write 107 = .ok (.aload_n 0, 1) := by decide +kernel
theorem dX8_write_108 : decode cX8_write 108 = .ok (.iload_n 1, 1) := by decide +kernel
theorem dX8_write_109 : decode cX8_write 109 = .ok (.invokevirtual 90, 3) := by decide +kernel
theorem dX8_write_112 : decode cX8_write 112 = .ok (.invokevirtual 137, 3) := by decide +kernel
theorem dX8_write_115 : decode cX8_write 115 = .ok (.iinc 1 1, 3) := by decide +kernel
theorem dX8_write_118 : decode cX8_write 118 = .ok (.goto (-43), 3) := by decide +kernel
theorem dX8_write_121 : decode cX8_write 121 = .ok (.aload_n 0, 1) := by decide +kernel
theorem dX8_write_122 : decode cX8_write 122 = .ok (.getfield 131, 3) := by decide +kernel
theorem dX8_write_125 : decode cX8_write 125 = .ok (.ireturn, 1) := by decide +kernel
set_option maxRecDepth 20000 in
theorem ggX8_of_X8_isSeat : GoodIn wsX8_of wsX8_isSeat := goodIn_r _ [5, 6, 7, 4, 8] (by decide +kernel) (by decide +kernel)
set_option maxRecDepth 20000 in
theorem gX8_of_X8_isSeat : GoodIn wsX8_of (va_wsS RX8 65 yX8_isSeat wsX8_isSeat) := goodIn_app (goodIn_of _ (by decide +kernel)) ggX8_of_X8_isSeat
set_option maxRecDepth 20000 in
theorem ggX8_of_X8_seat : GoodIn wsX8_of wsX8_seat := goodIn_r _ [12, 1, 13, 14, 15, 16, 17, 18, 19, 20, 21, 22, 23, 24] (by decide +kernel) (by decide +kernel)
set_option maxRecDepth 20000 in
theorem gX8_of_X8_seat : GoodIn wsX8_of (wsV RX8 61 RX8 yX8_seat wsX8_seat) := goodIn_app (goodIn_of _ (by decide +kernel)) ggX8_of_X8_seat
theorem dX8_of_0 : decode cX8_of 0 = .ok (.iload_n 1, 1) := by decide +kernel
theorem dX8_of_1 : decode cX8_of 1 = .ok (.invokestatic 65, 3) := by decide +kernel
theorem dX8_of_4 : decode cX8_of 4 = .ok (.ifCond .ne 5, 3) := by decide +kernel
theorem dX8_of_7 : decode cX8_of 7 = .ok (.iconst (-1), 1) := by decide +kernel
theorem dX8_of_8 : decode cX8_of 8 = .ok (.ireturn, 1) := by decide +kernel
theorem dX8_of_9 : decode cX8_of 9 = .ok (.iload_n 2, 1) := by decide +kernel
theorem dX8_of_10 : decode cX8_of 10 = .ok (.tableswitch 79 0 6 #[42, 42, 49, 70, 70, 70, 70], 42) := by decide +kernel
theorem dX8_of_52 : decode cX8_of 52 = .ok (.aload_n 0, 1) := by decide +kernel
theorem dX8_of_53 : decode cX8_of 53 = .ok (.iload_n 1, 1) := by decide +kernel
theorem dX8_of_54 : decode cX8_of 54 = .ok (.iload_n 2, 1) := by decide +kernel
theorem dX8_of_55 : decode cX8_of 55 = .ok (.invokevirtual 61, 3) := by decide +kernel
theorem dX8_of_58 : decode cX8_of 58 = .ok (.ireturn, 1) := by decide +kernel
theorem dX8_of_59 : decode cX8_of 59 = .ok (.aload_n 0, 1) := by decide +kernel
theorem dX8_of_60 : decode cX8_of 60 = .ok (.iload_n 1, 1) := by decide +kernel
theorem dX8_of_61 : decode cX8_of 61 = .ok (.iconst 2, 1) := by decide +kernel
theorem dX8_of_62 : decode cX8_of 62 = .ok (.invokevirtual 61, 3) := by decide +kernel
theorem dX8_of_65 : decode cX8_of 65 = .ok (.aload_n 0, 1) := by decide +kernel
theorem dX8_of_66 : decode cX8_of 66 = .ok (.getfield 7, 3) := by decide +kernel
theorem dX8_of_69 : decode cX8_of 69 = .ok (.iconst 4, 1) := by decide +kernel
theorem dX8_of_70 : decode cX8_of 70 = .ok (.iaload, 1) := by decide +kernel
theorem dX8_of_71 : decode cX8_of 71 = .ok (.if_icmp .lt 7, 3) := by decide +kernel
theorem dX8_of_74 : decode cX8_of 74 = .ok (.iconst 1, 1) := by decide +kernel
theorem dX8_of_75 : decode cX8_of 75 = .ok (.goto 4, 3) := by decide +kernel
theorem dX8_of_78 : decode cX8_of 78 = .ok (.iconst 0, 1) := by decide +kernel
theorem dX8_of_79 : decode cX8_of 79 = .ok (.ireturn, 1) := by decide +kernel
theorem dX8_of_80 : decode cX8_of 80 = .ok (.aload_n 0, 1) := by decide +kernel
theorem dX8_of_81 : decode cX8_of 81 = .ok (.iload_n 1, 1) := by decide +kernel
theorem dX8_of_82 : decode cX8_of 82 = .ok (.iload_n 2, 1) := by decide +kernel
theorem dX8_of_83 : decode cX8_of 83 = .ok (.iconst 1, 1) := by decide +kernel
theorem dX8_of_84 : decode cX8_of 84 = .ok (.isub, 1) := by decide +kernel
theorem dX8_of_85 : decode cX8_of 85 = .ok (.invokevirtual 61, 3) := by decide +kernel
theorem dX8_of_88 : decode cX8_of 88 = .ok (.ireturn, 1) := by decide +kernel
theorem dX8_of_89 : decode cX8_of 89 = .ok (.bipush (-2), 2) := by decide +kernel
theorem dX8_of_91 : decode cX8_of 91 = .ok (.ireturn, 1) := by decide +kernel
set_option maxRecDepth 20000 in
theorem ggX8_performer_X8_isPerformer : GoodIn wsX8_performer wsX8_isPerformer := goodIn_r _ [4, 5, 6, 3, 7] (by decide +kernel) (by decide +kernel)
set_option maxRecDepth 20000 in
theorem gX8_performer_X8_isPerformer : GoodIn wsX8_performer (va_wsS RX8 54 yX8_isPerformer wsX8_isPerformer) := goodIn_app (goodIn_of _ (by decide +kernel)) ggX8_performer_X8_isPerformer
set_option maxRecDepth 20000 in
theorem ggX8_performer_X8_within : GoodIn wsX8_performer wsX8_within := goodIn_r _ [7] (by decide +kernel) (by decide +kernel)
set_option maxRecDepth 20000 in
theorem gX8_performer_X8_within : GoodIn wsX8_performer (va_wsS RX8 32 yX8_within wsX8_within) := goodIn_app (goodIn_of _ (by decide +kernel)) ggX8_performer_X8_within
set_option maxRecDepth 20000 in
theorem ggX8_performer_X8_owes : GoodIn wsX8_performer wsX8_owes := goodIn_r _ [11, 12, 17, 18, 19, 20, 21, 22, 23, 24, 25, 26, 27, 28] (by decide +kernel) (by decide +kernel)
set_option maxRecDepth 20000 in
theorem gX8_performer_X8_owes : GoodIn wsX8_performer (wsV RX8 90 RX8 yX8_owes wsX8_owes) := goodIn_app (goodIn_of _ (by decide +kernel)) ggX8_performer_X8_owes
set_option maxRecDepth 20000 in
theorem ggX8_performer_X8_ofPerformer : GoodIn wsX8_performer wsX8_ofPerformer := goodIn_r _ [16, 12, 17, 18, 19, 20, 21, 22, 23, 24, 25, 26, 27, 28] (by decide +kernel) (by decide +kernel)
set_option maxRecDepth 20000 in
theorem gX8_performer_X8_ofPerformer : GoodIn wsX8_performer (wsV RX8 140 RX8 yX8_ofPerformer wsX8_ofPerformer) := goodIn_app (goodIn_of _ (by decide +kernel)) ggX8_performer_X8_ofPerformer
theorem dX8_performer_0 : decode cX8_performer 0 = .ok (.iload_n 1, 1) := by decide +kernel
theorem dX8_performer_1 : decode cX8_performer 1 = .ok (.invokestatic 54, 3) := by decide +kernel
theorem dX8_performer_4 : decode cX8_performer 4 = .ok (.ifCond .ne 5, 3) := by decide +kernel
theorem dX8_performer_7 : decode cX8_performer 7 = .ok (.iconst (-1), 1) := by decide +kernel
theorem dX8_performer_8 : decode cX8_performer 8 = .ok (.ireturn, 1) := by decide +kernel
theorem dX8_performer_9 : decode cX8_performer 9 = .ok (.iload_n 2, 1) := by decide +kernel
theorem dX8_performer_10 : decode cX8_performer 10 = .ok (.iconst 0, 1) := by decide +kernel
theorem dX8_performer_11 : decode cX8_performer 11 = .ok (.iconst 3, 1) := by decide +kernel
theorem dX8_performer_12 : decode cX8_performer 12 = .ok (.invokestatic 32, 3) := by decide +kernel
theorem dX8_performer_15 : decode cX8_performer 15 = .ok (.ifCond .ne 6, 3) := by decide +kernel
theorem dX8_performer_18 : decode cX8_performer 18 = .ok (.bipush (-2), 2) := by decide +kernel
theorem dX8_performer_20 : decode cX8_performer 20 = .ok (.ireturn, 1) := by decide +kernel
theorem dX8_performer_21 : decode cX8_performer 21 = .ok (.iload_n 2, 1) := by decide +kernel
theorem dX8_performer_22 : decode cX8_performer 22 = .ok (.ifCond .ne 11, 3) := by decide +kernel
theorem dX8_performer_25 : decode cX8_performer 25 = .ok (.aload_n 0, 1) := by decide +kernel
theorem dX8_performer_26 : decode cX8_performer 26 = .ok (.iload_n 1, 1) := by decide +kernel
theorem dX8_performer_27 : decode cX8_performer 27 = .ok (.invokevirtual 90, 3) := by decide +kernel
theorem dX8_performer_30 : decode cX8_performer 30 = .ok (.goto 11, 3) := by decide +kernel
theorem dX8_performer_33 : decode cX8_performer 33 = .ok (.aload_n 0, 1) := by decide +kernel
theorem dX8_performer_34 : decode cX8_performer 34 = .ok (.iload_n 1, 1) := by decide +kernel
theorem dX8_performer_35 : decode cX8_performer 35 = .ok (.iload_n 2, 1) := by decide +kernel
theorem dX8_performer_36 : decode cX8_performer 36 = .ok (.iconst 1, 1) := by decide +kernel
theorem dX8_performer_37 : decode cX8_performer 37 = .ok (.isub, 1) := by decide +kernel
theorem dX8_performer_38 : decode cX8_performer 38 = .ok (.invokevirtual 140, 3) := by decide +kernel
theorem dX8_performer_41 : decode cX8_performer 41 = .ok (.ireturn, 1) := by decide +kernel
set_option maxRecDepth 20000 in
theorem ggX8_owed_X8_within : GoodIn wsX8_owed wsX8_within := goodIn_r _ [5] (by decide +kernel) (by decide +kernel)
set_option maxRecDepth 20000 in
theorem gX8_owed_X8_within : GoodIn wsX8_owed (va_wsS RX8 32 yX8_within wsX8_within) := goodIn_app (goodIn_of _ (by decide +kernel)) ggX8_owed_X8_within
set_option maxRecDepth 20000 in
theorem ggX8_owed_X8_owedFor : GoodIn wsX8_owed wsX8_owedFor := goodIn_r _ [9, 1, 10, 11, 12, 13, 14, 15, 16, 17, 18, 19, 20, 21] (by decide +kernel) (by decide +kernel)
set_option maxRecDepth 20000 in
theorem gX8_owed_X8_owedFor : GoodIn wsX8_owed (wsV RX8 77 RX8 yX8_owedFor wsX8_owedFor) := goodIn_app (goodIn_of _ (by decide +kernel)) ggX8_owed_X8_owedFor
theorem dX8_owed_0 : decode cX8_owed 0 = .ok (.iload_n 1, 1) := by decide +kernel
theorem dX8_owed_1 : decode cX8_owed 1 = .ok (.iconst 0, 1) := by decide +kernel
theorem dX8_owed_2 : decode cX8_owed 2 = .ok (.aload_n 0, 1) := by decide +kernel
theorem dX8_owed_3 : decode cX8_owed 3 = .ok (.getfield 7, 3) := by decide +kernel
theorem dX8_owed_6 : decode cX8_owed 6 = .ok (.bipush 17, 2) := by decide +kernel
theorem dX8_owed_8 : decode cX8_owed 8 = .ok (.iaload, 1) := by decide +kernel
theorem dX8_owed_9 : decode cX8_owed 9 = .ok (.iconst 1, 1) := by decide +kernel
theorem dX8_owed_10 : decode cX8_owed 10 = .ok (.isub, 1) := by decide +kernel
theorem dX8_owed_11 : decode cX8_owed 11 = .ok (.invokestatic 32, 3) := by decide +kernel
theorem dX8_owed_14 : decode cX8_owed 14 = .ok (.ifCond .ne 5, 3) := by decide +kernel
theorem dX8_owed_17 : decode cX8_owed 17 = .ok (.iconst (-1), 1) := by decide +kernel
theorem dX8_owed_18 : decode cX8_owed 18 = .ok (.ireturn, 1) := by decide +kernel
theorem dX8_owed_19 : decode cX8_owed 19 = .ok (.iload_n 2, 1) := by decide +kernel
theorem dX8_owed_20 : decode cX8_owed 20 = .ok (.ifCond .ne 18, 3) := by decide +kernel
theorem dX8_owed_23 : decode cX8_owed 23 = .ok (.aload_n 0, 1) := by decide +kernel
theorem dX8_owed_24 : decode cX8_owed 24 = .ok (.getfield 7, 3) := by decide +kernel
theorem dX8_owed_27 : decode cX8_owed 27 = .ok (.sipush 218, 3) := by decide +kernel
theorem dX8_owed_30 : decode cX8_owed 30 = .ok (.iconst 2, 1) := by decide +kernel
theorem dX8_owed_31 : decode cX8_owed 31 = .ok (.iload_n 1, 1) := by decide +kernel
theorem dX8_owed_32 : decode cX8_owed 32 = .ok (.imul, 1) := by decide +kernel
theorem dX8_owed_33 : decode cX8_owed 33 = .ok (.iadd, 1) := by decide +kernel
theorem dX8_owed_34 : decode cX8_owed 34 = .ok (.iaload, 1) := by decide +kernel
theorem dX8_owed_35 : decode cX8_owed 35 = .ok (.goto 18, 3) := by decide +kernel
theorem dX8_owed_38 : decode cX8_owed 38 = .ok (.iload_n 2, 1) := by decide +kernel
theorem dX8_owed_39 : decode cX8_owed 39 = .ok (.iconst 1, 1) := by decide +kernel
theorem dX8_owed_40 : decode cX8_owed 40 = .ok (.if_icmp .ne 11, 3) := by decide +kernel
theorem dX8_owed_43 : decode cX8_owed 43 = .ok (.aload_n 0, 1) := by decide +kernel
theorem dX8_owed_44 : decode cX8_owed 44 = .ok (.iload_n 1, 1) := by decide +kernel
theorem dX8_owed_45 : decode cX8_owed 45 = .ok (.invokevirtual 77, 3) := by decide +kernel
theorem dX8_owed_48 : decode cX8_owed 48 = .ok (.goto 5, 3) := by decide +kernel
theorem dX8_owed_51 : decode cX8_owed 51 = .ok (.bipush (-2), 2) := by decide +kernel
theorem dX8_owed_53 : decode cX8_owed 53 = .ok (.ireturn, 1) := by decide +kernel
set_option maxRecDepth 20000 in
theorem ggX8_clapper_X8_within : GoodIn wsX8_clapper wsX8_within := goodIn_r _ [5] (by decide +kernel) (by decide +kernel)
set_option maxRecDepth 20000 in
theorem gX8_clapper_X8_within : GoodIn wsX8_clapper (va_wsS RX8 32 yX8_within wsX8_within) := goodIn_app (goodIn_of _ (by decide +kernel)) ggX8_clapper_X8_within
theorem dX8_clapper_0 : decode cX8_clapper 0 = .ok (.iload_n 1, 1) := by decide +kernel
theorem dX8_clapper_1 : decode cX8_clapper 1 = .ok (.iconst 0, 1) := by decide +kernel
theorem dX8_clapper_2 : decode cX8_clapper 2 = .ok (.aload_n 0, 1) := by decide +kernel
theorem dX8_clapper_3 : decode cX8_clapper 3 = .ok (.getfield 7, 3) := by decide +kernel
theorem dX8_clapper_6 : decode cX8_clapper 6 = .ok (.bipush 18, 2) := by decide +kernel
theorem dX8_clapper_8 : decode cX8_clapper 8 = .ok (.iaload, 1) := by decide +kernel
theorem dX8_clapper_9 : decode cX8_clapper 9 = .ok (.iconst 1, 1) := by decide +kernel
theorem dX8_clapper_10 : decode cX8_clapper 10 = .ok (.isub, 1) := by decide +kernel
theorem dX8_clapper_11 : decode cX8_clapper 11 = .ok (.invokestatic 32, 3) := by decide +kernel
theorem dX8_clapper_14 : decode cX8_clapper 14 = .ok (.ifCond .eq 16, 3) := by decide +kernel
theorem dX8_clapper_17 : decode cX8_clapper 17 = .ok (.aload_n 0, 1) := by decide +kernel
theorem dX8_clapper_18 : decode cX8_clapper 18 = .ok (.getfield 7, 3) := by decide +kernel
theorem dX8_clapper_21 : decode cX8_clapper 21 = .ok (.sipush 234, 3) := by decide +kernel
theorem dX8_clapper_24 : decode cX8_clapper 24 = .ok (.iload_n 1, 1) := by decide +kernel
theorem dX8_clapper_25 : decode cX8_clapper 25 = .ok (.iadd, 1) := by decide +kernel
theorem dX8_clapper_26 : decode cX8_clapper 26 = .ok (.iaload, 1) := by decide +kernel
theorem dX8_clapper_27 : decode cX8_clapper 27 = .ok (.goto 4, 3) := by decide +kernel
theorem dX8_clapper_30 : decode cX8_clapper 30 = .ok (.iconst (-1), 1) := by decide +kernel
theorem dX8_clapper_31 : decode cX8_clapper 31 = .ok (.ireturn, 1) := by decide +kernel
set_option maxRecDepth 20000 in
theorem ggX8_record_X8_within : GoodIn wsX8_record wsX8_within := goodIn_r _ [5] (by decide +kernel) (by decide +kernel)
set_option maxRecDepth 20000 in
theorem gX8_record_X8_within : GoodIn wsX8_record (va_wsS RX8 32 yX8_within wsX8_within) := goodIn_app (goodIn_of _ (by decide +kernel)) ggX8_record_X8_within
theorem dX8_record_0 : decode cX8_record 0 = .ok (.iload_n 1, 1) := by decide +kernel
theorem dX8_record_1 : decode cX8_record 1 = .ok (.iconst 0, 1) := by decide +kernel
theorem dX8_record_2 : decode cX8_record 2 = .ok (.aload_n 0, 1) := by decide +kernel
theorem dX8_record_3 : decode cX8_record 3 = .ok (.getfield 7, 3) := by decide +kernel
theorem dX8_record_6 : decode cX8_record 6 = .ok (.bipush 19, 2) := by decide +kernel
theorem dX8_record_8 : decode cX8_record 8 = .ok (.iaload, 1) := by decide +kernel
theorem dX8_record_9 : decode cX8_record 9 = .ok (.iconst 1, 1) := by decide +kernel
theorem dX8_record_10 : decode cX8_record 10 = .ok (.isub, 1) := by decide +kernel
theorem dX8_record_11 : decode cX8_record 11 = .ok (.invokestatic 32, 3) := by decide +kernel
theorem dX8_record_14 : decode cX8_record 14 = .ok (.ifCond .ne 5, 3) := by decide +kernel
theorem dX8_record_17 : decode cX8_record 17 = .ok (.iconst (-1), 1) := by decide +kernel
theorem dX8_record_18 : decode cX8_record 18 = .ok (.ireturn, 1) := by decide +kernel
theorem dX8_record_19 : decode cX8_record 19 = .ok (.iload_n 2, 1) := by decide +kernel
theorem dX8_record_20 : decode cX8_record 20 = .ok (.iconst 0, 1) := by decide +kernel
theorem dX8_record_21 : decode cX8_record 21 = .ok (.iconst 3, 1) := by decide +kernel
theorem dX8_record_22 : decode cX8_record 22 = .ok (.invokestatic 32, 3) := by decide +kernel
theorem dX8_record_25 : decode cX8_record 25 = .ok (.ifCond .eq 20, 3) := by decide +kernel
theorem dX8_record_28 : decode cX8_record 28 = .ok (.aload_n 0, 1) := by decide +kernel
theorem dX8_record_29 : decode cX8_record 29 = .ok (.getfield 7, 3) := by decide +kernel
theorem dX8_record_32 : decode cX8_record 32 = .ok (.sipush 264, 3) := by decide +kernel
theorem dX8_record_35 : decode cX8_record 35 = .ok (.iconst 4, 1) := by decide +kernel
theorem dX8_record_36 : decode cX8_record 36 = .ok (.iload_n 1, 1) := by decide +kernel
theorem dX8_record_37 : decode cX8_record 37 = .ok (.imul, 1) := by decide +kernel
theorem dX8_record_38 : decode cX8_record 38 = .ok (.iadd, 1) := by decide +kernel
theorem dX8_record_39 : decode cX8_record 39 = .ok (.iload_n 2, 1) := by decide +kernel
theorem dX8_record_40 : decode cX8_record 40 = .ok (.iadd, 1) := by decide +kernel
theorem dX8_record_41 : decode cX8_record 41 = .ok (.iaload, 1) := by decide +kernel
theorem dX8_record_42 : decode cX8_record 42 = .ok (.goto 5, 3) := by decide +kernel
theorem dX8_record_45 : decode cX8_record 45 = .ok (.bipush (-2), 2) := by decide +kernel
theorem dX8_record_47 : decode cX8_record 47 = .ok (.ireturn, 1) := by decide +kernel
set_option maxRecDepth 20000 in
theorem ggX8_sign_X8_within : GoodIn wsX8_sign wsX8_within := goodIn_r _ [6] (by decide +kernel) (by decide +kernel)
set_option maxRecDepth 20000 in
theorem gX8_sign_X8_within : GoodIn wsX8_sign (va_wsS RX8 32 yX8_within wsX8_within) := goodIn_app (goodIn_of _ (by decide +kernel)) ggX8_sign_X8_within
theorem dX8_sign_0 : decode cX8_sign 0 = .ok (.iload_n 1, 1) := by decide +kernel
theorem dX8_sign_1 : decode cX8_sign 1 = .ok (.iconst 0, 1) := by decide +kernel
theorem dX8_sign_2 : decode cX8_sign 2 = .ok (.aload_n 0, 1) := by decide +kernel
theorem dX8_sign_3 : decode cX8_sign 3 = .ok (.getfield 131, 3) := by decide +kernel
theorem dX8_sign_6 : decode cX8_sign 6 = .ok (.iconst 1, 1) := by decide +kernel
theorem dX8_sign_7 : decode cX8_sign 7 = .ok (.isub, 1) := by decide +kernel
theorem dX8_sign_8 : decode cX8_sign 8 = .ok (.invokestatic 32, 3) := by decide +kernel
theorem dX8_sign_11 : decode cX8_sign 11 = .ok (.ifCond .eq 12, 3) := by decide +kernel
theorem dX8_sign_14 : decode cX8_sign 14 = .ok (.aload_n 0, 1) := by decide +kernel
theorem dX8_sign_15 : decode cX8_sign 15 = .ok (.getfield 25, 3) := by decide +kernel
theorem dX8_sign_18 : decode cX8_sign 18 = .ok (.iload_n 1, 1) := by decide +kernel
theorem dX8_sign_19 : decode cX8_sign 19 = .ok (.iaload, 1) := by decide +kernel
theorem dX8_sign_20 : decode cX8_sign 20 = .ok (.goto 4, 3) := by decide +kernel
theorem dX8_sign_23 : decode cX8_sign 23 = .ok (.iconst (-1), 1) := by decide +kernel
theorem dX8_sign_24 : decode cX8_sign 24 = .ok (.ireturn, 1) := by decide +kernel
set_option maxRecDepth 20000 in
theorem ggX8_soFar_X8_ofPerformer : GoodIn wsX8_soFar wsX8_ofPerformer := goodIn_r _ [5, 6, 7, 8, 9, 10, 11, 12, 13, 14, 15, 16, 17, 18] (by decide +kernel) (by decide +kernel)
set_option maxRecDepth 20000 in
theorem gX8_soFar_X8_ofPerformer : GoodIn wsX8_soFar (wsV RX8 140 RX8 yX8_ofPerformer wsX8_ofPerformer) := goodIn_app (goodIn_of _ (by decide +kernel)) ggX8_soFar_X8_ofPerformer
theorem dX8_soFar_0 : decode cX8_soFar 0 = .ok (.iconst 0, 1) := by decide +kernel
theorem dX8_soFar_1 : decode cX8_soFar 1 = .ok (.istore_n 2, 1) := by decide +kernel
theorem dX8_soFar_2 : decode cX8_soFar 2 = .ok (.iconst 0, 1) := by decide +kernel
theorem dX8_soFar_3 : decode cX8_soFar 3 = .ok (.istore_n 3, 1) := by decide +kernel
theorem dX8_soFar_4 : decode cX8_soFar 4 = .ok (.iload_n 3, 1) := by decide +kernel
theorem dX8_soFar_5 : decode cX8_soFar 5 = .ok (.bipush 6, 2) := by decide +kernel
theorem dX8_soFar_7 : decode cX8_soFar 7 = .ok (.if_icmp .ge 18, 3) := by decide +kernel
theorem dX8_soFar_10 : decode cX8_soFar 10 = .ok (.iload_n 2, 1) := by decide +kernel
theorem dX8_soFar_11 : decode cX8_soFar 11 = .ok (.aload_n 0, 1) := by decide +kernel
theorem dX8_soFar_12 : decode cX8_soFar 12 = .ok (.iload_n 3, 1) := by decide +kernel
theorem dX8_soFar_13 : decode cX8_soFar 13 = .ok (.iload_n 1, 1) := by decide +kernel
theorem dX8_soFar_14 : decode cX8_soFar 14 = .ok (.invokevirtual 140, 3) := by decide +kernel
theorem dX8_soFar_17 : decode cX8_soFar 17 = .ok (.iadd, 1) := by decide +kernel
theorem dX8_soFar_18 : decode cX8_soFar 18 = .ok (.istore_n 2, 1) := by decide +kernel
theorem dX8_soFar_19 : decode cX8_soFar 19 = .ok (.iinc 3 1, 3) := by decide +kernel
theorem dX8_soFar_22 : decode cX8_soFar 22 = .ok (.goto (-18), 3) := by decide +kernel
theorem dX8_soFar_25 : decode cX8_soFar 25 = .ok (.iload_n 2, 1) := by decide +kernel
theorem dX8_soFar_26 : decode cX8_soFar 26 = .ok (.ireturn, 1) := by decide +kernel
set_option maxRecDepth 20000 in
theorem ggX8_count_X8_within : GoodIn wsX8_count wsX8_within := goodIn_r _ [7] (by decide +kernel) (by decide +kernel)
set_option maxRecDepth 20000 in
theorem gX8_count_X8_within : GoodIn wsX8_count (va_wsS RX8 32 yX8_within wsX8_within) := goodIn_app (goodIn_of _ (by decide +kernel)) ggX8_count_X8_within
set_option maxRecDepth 20000 in
theorem ggX8_count_X8_soFar : GoodIn wsX8_count wsX8_soFar := goodIn_r _ [11, 12, 13, 14, 6, 15, 1, 24, 25, 26, 27, 28, 29, 30, 31, 32, 33, 34, 35] (by decide +kernel) (by decide +kernel)
set_option maxRecDepth 20000 in
theorem gX8_count_X8_soFar : GoodIn wsX8_count (wsV RX8 143 RX8 yX8_soFar wsX8_soFar) := goodIn_app (goodIn_of _ (by decide +kernel)) ggX8_count_X8_soFar
set_option maxRecDepth 20000 in
theorem ggX8_count_X8_those : GoodIn wsX8_count wsX8_those := goodIn_r _ [19, 20, 21, 22, 6, 23, 1, 24, 25, 26, 27, 28, 29, 30, 31, 32, 33, 34, 35] (by decide +kernel) (by decide +kernel)
set_option maxRecDepth 20000 in
theorem gX8_count_X8_those : GoodIn wsX8_count (wsV RX8 96 RX8 yX8_those wsX8_those) := goodIn_app (goodIn_of _ (by decide +kernel)) ggX8_count_X8_those
theorem dX8_count_0 : decode cX8_count 0 = .ok (.iload_n 1, 1) := by decide +kernel
theorem dX8_count_1 : decode cX8_count 1 = .ok (.bipush 13, 2) := by decide +kernel
theorem dX8_count_3 : decode cX8_count 3 = .ok (.bipush 18, 2) := by decide +kernel
theorem dX8_count_5 : decode cX8_count 5 = .ok (.invokestatic 32, 3) := by decide +kernel
theorem dX8_count_8 : decode cX8_count 8 = .ok (.ifCond .eq 13, 3) := by decide +kernel
theorem dX8_count_11 : decode cX8_count 11 = .ok (.aload_n 0, 1) := by decide +kernel
theorem dX8_count_12 : decode cX8_count 12 = .ok (.getfield 7, 3) := by decide +kernel
theorem dX8_count_15 : decode cX8_count 15 = .ok (.iload_n 1, 1) := by decide +kernel
theorem dX8_count_16 : decode cX8_count 16 = .ok (.bipush 13, 2) := by decide +kernel
theorem dX8_count_18 : decode cX8_count 18 = .ok (.isub, 1) := by decide +kernel
theorem dX8_count_19 : decode cX8_count 19 = .ok (.iaload, 1) := by decide +kernel
theorem dX8_count_20 : decode cX8_count 20 = .ok (.ireturn, 1) := by decide +kernel
theorem dX8_count_21 : decode cX8_count 21 = .ok (.iload_n 1, 1) := by decide +kernel
theorem dX8_count_22 : decode cX8_count 22 = .ok (.tableswitch 236 0 20 #[98, 98, 98, 98, 108, 116, 116, 124, 132, 164, 188, 195, 207, 236, 236, 236, 236, 236, 236, 226, 231], 98) := by decide +kernel
theorem dX8_count_120 : decode cX8_count 120 = .ok (.aload_n 0, 1) := by decide +kernel
theorem dX8_count_121 : decode cX8_count 121 = .ok (.getfield 7, 3) := by decide +kernel
theorem dX8_count_124 : decode cX8_count 124 = .ok (.bipush 6, 2) := by decide +kernel
theorem dX8_count_126 : decode cX8_count 126 = .ok (.iload_n 1, 1) := by decide +kernel
theorem dX8_count_127 : decode cX8_count 127 = .ok (.iadd, 1) := by decide +kernel
theorem dX8_count_128 : decode cX8_count 128 = .ok (.iaload, 1) := by decide +kernel
theorem dX8_count_129 : decode cX8_count 129 = .ok (.ireturn, 1) := by decide +kernel
theorem dX8_count_130 : decode cX8_count 130 = .ok (.aload_n 0, 1) := by decide +kernel
theorem dX8_count_131 : decode cX8_count 131 = .ok (.getfield 7, 3) := by decide +kernel
theorem dX8_count_134 : decode cX8_count 134 = .ok (.bipush 17, 2) := by decide +kernel
theorem dX8_count_136 : decode cX8_count 136 = .ok (.iaload, 1) := by decide +kernel
theorem dX8_count_137 : decode cX8_count 137 = .ok (.ireturn, 1) := by decide +kernel
theorem dX8_count_138 : decode cX8_count 138 = .ok (.aload_n 0, 1) := by decide +kernel
theorem dX8_count_139 : decode cX8_count 139 = .ok (.iload_n 1, 1) := by decide +kernel
theorem dX8_count_140 : decode cX8_count 140 = .ok (.iconst 5, 1) := by decide +kernel
theorem dX8_count_141 : decode cX8_count 141 = .ok (.isub, 1) := by decide +kernel
theorem dX8_count_142 : decode cX8_count 142 = .ok (.invokevirtual 143, 3) := by decide +kernel
theorem dX8_count_145 : decode cX8_count 145 = .ok (.ireturn, 1) := by decide +kernel
theorem dX8_count_146 : decode cX8_count 146 = .ok (.aload_n 0, 1) := by decide +kernel
theorem dX8_count_147 : decode cX8_count 147 = .ok (.getfield 7, 3) := by decide +kernel
theorem dX8_count_150 : decode cX8_count 150 = .ok (.bipush 12, 2) := by decide +kernel
theorem dX8_count_152 : decode cX8_count 152 = .ok (.iaload, 1) := by decide +kernel
theorem dX8_count_153 : decode cX8_count 153 = .ok (.ireturn, 1) := by decide +kernel
theorem dX8_count_154 : decode cX8_count 154 = .ok (.aload_n 0, 1) := by decide +kernel
theorem dX8_count_155 : decode cX8_count 155 = .ok (.getfield 7, 3) := by decide +kernel
theorem dX8_count_158 : decode cX8_count 158 = .ok (.bipush 13, 2) := by decide +kernel
theorem dX8_count_160 : decode cX8_count 160 = .ok (.iaload, 1) := by decide +kernel
theorem dX8_count_161 : decode cX8_count 161 = .ok (.iconst 1, 1) := by decide +kernel
theorem dX8_count_162 : decode cX8_count 162 = .ok (.if_icmp .ne 21, 3) := by decide +kernel
theorem dX8_count_165 : decode cX8_count 165 = .ok (.aload_n 0, 1) := by decide +kernel
theorem dX8_count_166 : decode cX8_count 166 = .ok (.getfield 7, 3) := by decide +kernel
theorem dX8_count_169 : decode cX8_count 169 = .ok (.bipush 7, 2) := by decide +kernel
theorem dX8_count_171 : decode cX8_count 171 = .ok (.iaload, 1) := by decide +kernel
theorem dX8_count_172 : decode cX8_count 172 = .ok (.aload_n 0, 1) := by decide +kernel
theorem dX8_count_173 : decode cX8_count 173 = .ok (.getfield 7, 3) := by decide +kernel
theorem dX8_count_176 : decode cX8_count 176 = .ok (.bipush 14, 2) := by decide +kernel
theorem dX8_count_178 : decode cX8_count 178 = .ok (.iaload, 1) := by decide +kernel
theorem dX8_count_179 : decode cX8_count 179 = .ok (.isub, 1) := by decide +kernel
theorem dX8_count_180 : decode cX8_count 180 = .ok (.goto 5, 3) := by decide +kernel
theorem dX8_count_183 : decode cX8_count 183 = .ok (.bipush (-6), 2) := by decide +kernel
theorem dX8_count_185 : decode cX8_count 185 = .ok (.ireturn, 1) := by decide +kernel
theorem dX8_count_186 : decode cX8_count 186 = .ok (.aload_n 0, 1) := by decide +kernel
theorem dX8_count_187 : decode cX8_count 187 = .ok (.getfield 7, 3) := by decide +kernel
theorem dX8_count_190 : decode cX8_count 190 = .ok (.bipush 13, 2) := by decide +kernel
theorem dX8_count_192 : decode cX8_count 192 = .ok (.iaload, 1) := by decide +kernel
theorem dX8_count_193 : decode cX8_count 193 = .ok (.iconst 1, 1) := by decide +kernel
theorem dX8_count_194 : decode cX8_count 194 = .ok (.if_icmp .ne 13, 3) := by decide +kernel
theorem dX8_count_197 : decode cX8_count 197 = .ok (.aload_n 0, 1) := by decide +kernel
theorem dX8_count_198 : decode cX8_count 198 = .ok (.getfield 7, 3) := by decide +kernel
theorem dX8_count_201 : decode cX8_count 201 = .ok (.bipush 15, 2) := by decide +kernel
theorem dX8_count_203 : decode cX8_count 203 = .ok (.iaload, 1) := by decide +kernel
theorem dX8_count_204 : decode cX8_count 204 = .ok (.goto 5, 3) := by decide +kernel
theorem dX8_count_207 : decode cX8_count 207 = .ok (.bipush (-6), 2) := by decide +kernel
theorem dX8_count_209 : decode cX8_count 209 = .ok (.ireturn, 1) := by decide +kernel
theorem dX8_count_210 : decode cX8_count 210 = .ok (.aload_n 0, 1) := by decide +kernel
theorem dX8_count_211 : decode cX8_count 211 = .ok (.iconst 1, 1) := by decide +kernel
theorem dX8_count_212 : decode cX8_count 212 = .ok (.iconst 0, 1) := by decide +kernel
theorem dX8_count_213 : decode cX8_count 213 = .ok (.invokevirtual 96, 3) := by decide +kernel
theorem dX8_count_216 : decode cX8_count 216 = .ok (.ireturn, 1) := by decide +kernel
theorem dX8_count_217 : decode cX8_count 217 = .ok (.aload_n 0, 1) := by decide +kernel
theorem dX8_count_218 : decode cX8_count 218 = .ok (.iconst 0, 1) := by decide +kernel
theorem dX8_count_219 : decode cX8_count 219 = .ok (.aload_n 0, 1) := by decide +kernel
theorem dX8_count_220 : decode cX8_count 220 = .ok (.getfield 7, 3) := by decide +kernel
theorem dX8_count_223 : decode cX8_count 223 = .ok (.iconst 4, 1) := by decide +kernel
theorem dX8_count_224 : decode cX8_count 224 = .ok (.iaload, 1) := by decide +kernel
theorem dX8_count_225 : decode cX8_count 225 = .ok (.invokevirtual 96, 3) := by decide +kernel
theorem dX8_count_228 : decode cX8_count 228 = .ok (.ireturn, 1) := by decide +kernel
theorem dX8_count_229 : decode cX8_count 229 = .ok (.aload_n 0, 1) := by decide +kernel
theorem dX8_count_230 : decode cX8_count 230 = .ok (.iconst 1, 1) := by decide +kernel
theorem dX8_count_231 : decode cX8_count 231 = .ok (.iconst 0, 1) := by decide +kernel
theorem dX8_count_232 : decode cX8_count 232 = .ok (.invokevirtual 96, 3) := by decide +kernel
theorem dX8_count_235 : decode cX8_count 235 = .ok (.aload_n 0, 1) := by decide +kernel
theorem dX8_count_236 : decode cX8_count 236 = .ok (.iconst 0, 1) := by decide +kernel
theorem dX8_count_237 : decode cX8_count 237 = .ok (.aload_n 0, 1) := by decide +kernel
theorem dX8_count_238 : decode cX8_count 238 = .ok (.getfield 7, 3) := by decide +kernel
theorem dX8_count_241 : decode cX8_count 241 = .ok (.iconst 4, 1) := by decide +kernel
theorem dX8_count_242 : decode cX8_count 242 = .ok (.iaload, 1) := by decide +kernel
theorem dX8_count_243 : decode cX8_count 243 = .ok (.invokevirtual 96, 3) := by decide +kernel
theorem dX8_count_246 : decode cX8_count 246 = .ok (.iand, 1) := by decide +kernel
theorem dX8_count_247 : decode cX8_count 247 = .ok (.ireturn, 1) := by decide +kernel
theorem dX8_count_248 : decode cX8_count 248 = .ok (.aload_n 0, 1) := by decide +kernel
theorem dX8_count_249 : decode cX8_count 249 = .ok (.getfield 131, 3) := by decide +kernel
theorem dX8_count_252 : decode cX8_count 252 = .ok (.ireturn, 1) := by decide +kernel
theorem dX8_count_253 : decode cX8_count 253 = .ok (.aload_n 0, 1) := by decide +kernel
theorem dX8_count_254 : decode cX8_count 254 = .ok (.getfield 36, 3) := by decide +kernel
theorem dX8_count_257 : decode cX8_count 257 = .ok (.ireturn, 1) := by decide +kernel
theorem dX8_count_258 : decode cX8_count 258 = .ok (.bipush (-2), 2) := by decide +kernel
theorem dX8_count_260 : decode cX8_count 260 = .ok (.ireturn, 1) := by decide +kernel
set_option maxRecDepth 20000 in
theorem ggX8_quietIn_X8_within : GoodIn wsX8_quietIn wsX8_within := goodIn_r _ [5] (by decide +kernel) (by decide +kernel)
set_option maxRecDepth 20000 in
theorem gX8_quietIn_X8_within : GoodIn wsX8_quietIn (va_wsS RX8 32 yX8_within wsX8_within) := goodIn_app (goodIn_of _ (by decide +kernel)) ggX8_quietIn_X8_within
set_option maxRecDepth 20000 in
theorem ggX8_quietIn_X8_decayed : GoodIn wsX8_quietIn wsX8_decayed := goodIn_r _ [9, 1, 10, 11, 12, 13, 14, 15, 16, 17, 18, 19, 20, 21] (by decide +kernel) (by decide +kernel)
set_option maxRecDepth 20000 in
theorem gX8_quietIn_X8_decayed : GoodIn wsX8_quietIn (wsV RX8 74 RX8 yX8_decayed wsX8_decayed) := goodIn_app (goodIn_of _ (by decide +kernel)) ggX8_quietIn_X8_decayed
theorem dX8_quietIn_0 : decode cX8_quietIn 0 = .ok (.iload_n 1, 1) := by decide +kernel
theorem dX8_quietIn_1 : decode cX8_quietIn 1 = .ok (.iconst 0, 1) := by decide +kernel
theorem dX8_quietIn_2 : decode cX8_quietIn 2 = .ok (.sipush 9999, 3) := by decide +kernel
theorem dX8_quietIn_5 : decode cX8_quietIn 5 = .ok (.invokestatic 32, 3) := by decide +kernel
theorem dX8_quietIn_8 : decode cX8_quietIn 8 = .ok (.ifCond .ne 6, 3) := by decide +kernel
theorem dX8_quietIn_11 : decode cX8_quietIn 11 = .ok (.bipush (-2), 2) := by decide +kernel
theorem dX8_quietIn_13 : decode cX8_quietIn 13 = .ok (.ireturn, 1) := by decide +kernel
theorem dX8_quietIn_14 : decode cX8_quietIn 14 = .ok (.iconst 0, 1) := by decide +kernel
theorem dX8_quietIn_15 : decode cX8_quietIn 15 = .ok (.istore_n 2, 1) := by decide +kernel
theorem dX8_quietIn_16 : decode cX8_quietIn 16 = .ok (.aload_n 0, 1) := by decide +kernel
theorem dX8_quietIn_17 : decode cX8_quietIn 17 = .ok (.getfield 7, 3) := by decide +kernel
theorem dX8_quietIn_20 : decode cX8_quietIn 20 = .ok (.bipush 6, 2) := by decide +kernel
theorem dX8_quietIn_22 : decode cX8_quietIn 22 = .ok (.iaload, 1) := by decide +kernel
theorem dX8_quietIn_23 : decode cX8_quietIn 23 = .ok (.istore_n 3, 1) := by decide +kernel
theorem dX8_quietIn_24 : decode cX8_quietIn 24 = .ok (.iload_n 3, 1) := by decide +kernel
theorem dX8_quietIn_25 : decode cX8_quietIn 25 = .ok (.iload_n 1, 1) := by decide +kernel
theorem dX8_quietIn_26 : decode cX8_quietIn 26 = .ok (.if_icmp .le 15, 3) := by decide +kernel
theorem dX8_quietIn_29 : decode cX8_quietIn 29 = .ok (.iinc 2 1, 3) := by decide +kernel
theorem dX8_quietIn_32 : decode cX8_quietIn 32 = .ok (.aload_n 0, 1) := by decide +kernel
theorem dX8_quietIn_33 : decode cX8_quietIn 33 = .ok (.iload_n 3, 1) := by decide +kernel
theorem dX8_quietIn_34 : decode cX8_quietIn 34 = .ok (.invokevirtual 74, 3) := by decide +kernel
theorem dX8_quietIn_37 : decode cX8_quietIn 37 = .ok (.istore_n 3, 1) := by decide +kernel
theorem dX8_quietIn_38 : decode cX8_quietIn 38 = .ok (.goto (-14), 3) := by decide +kernel
theorem dX8_quietIn_41 : decode cX8_quietIn 41 = .ok (.iload_n 2, 1) := by decide +kernel
theorem dX8_quietIn_42 : decode cX8_quietIn 42 = .ok (.ireturn, 1) := by decide +kernel
set_option maxRecDepth 20000 in
theorem ggX8_clapsFor_X8_isSeat : GoodIn wsX8_clapsFor wsX8_isSeat := goodIn_r _ [5, 6, 7, 4, 8] (by decide +kernel) (by decide +kernel)
set_option maxRecDepth 20000 in
theorem gX8_clapsFor_X8_isSeat : GoodIn wsX8_clapsFor (va_wsS RX8 65 yX8_isSeat wsX8_isSeat) := goodIn_app (goodIn_of _ (by decide +kernel)) ggX8_clapsFor_X8_isSeat
set_option maxRecDepth 20000 in
theorem ggX8_clapsFor_X8_seat : GoodIn wsX8_clapsFor wsX8_seat := goodIn_r _ [12, 1, 13, 14, 15, 16, 17, 18, 19, 20, 21, 22, 23, 24] (by decide +kernel) (by decide +kernel)
set_option maxRecDepth 20000 in
theorem gX8_clapsFor_X8_seat : GoodIn wsX8_clapsFor (wsV RX8 61 RX8 yX8_seat wsX8_seat) := goodIn_app (goodIn_of _ (by decide +kernel)) ggX8_clapsFor_X8_seat
theorem dX8_clapsFor_0 : decode cX8_clapsFor 0 = .ok (.iload_n 1, 1) := by decide +kernel
theorem dX8_clapsFor_1 : decode cX8_clapsFor 1 = .ok (.invokestatic 65, 3) := by decide +kernel
theorem dX8_clapsFor_4 : decode cX8_clapsFor 4 = .ok (.ifCond .ne 5, 3) := by decide +kernel
theorem dX8_clapsFor_7 : decode cX8_clapsFor 7 = .ok (.iconst (-1), 1) := by decide +kernel
theorem dX8_clapsFor_8 : decode cX8_clapsFor 8 = .ok (.ireturn, 1) := by decide +kernel
theorem dX8_clapsFor_9 : decode cX8_clapsFor 9 = .ok (.aload_n 0, 1) := by decide +kernel
theorem dX8_clapsFor_10 : decode cX8_clapsFor 10 = .ok (.getfield 7, 3) := by decide +kernel
theorem dX8_clapsFor_13 : decode cX8_clapsFor 13 = .ok (.bipush 13, 2) := by decide +kernel
theorem dX8_clapsFor_15 : decode cX8_clapsFor 15 = .ok (.iaload, 1) := by decide +kernel
theorem dX8_clapsFor_16 : decode cX8_clapsFor 16 = .ok (.ifCond .eq 14, 3) := by decide +kernel
theorem dX8_clapsFor_19 : decode cX8_clapsFor 19 = .ok (.aload_n 0, 1) := by decide +kernel
theorem dX8_clapsFor_20 : decode cX8_clapsFor 20 = .ok (.getfield 7, 3) := by decide +kernel
theorem dX8_clapsFor_23 : decode cX8_clapsFor 23 = .ok (.bipush 16, 2) := by decide +kernel
theorem dX8_clapsFor_25 : decode cX8_clapsFor 25 = .ok (.iaload, 1) := by decide +kernel
theorem dX8_clapsFor_26 : decode cX8_clapsFor 26 = .ok (.iconst 1, 1) := by decide +kernel
theorem dX8_clapsFor_27 : decode cX8_clapsFor 27 = .ok (.if_icmp .ne 6, 3) := by decide +kernel
theorem dX8_clapsFor_30 : decode cX8_clapsFor 30 = .ok (.bipush (-5), 2) := by decide +kernel
theorem dX8_clapsFor_32 : decode cX8_clapsFor 32 = .ok (.ireturn, 1) := by decide +kernel
theorem dX8_clapsFor_33 : decode cX8_clapsFor 33 = .ok (.bipush 10, 2) := by decide +kernel
theorem dX8_clapsFor_35 : decode cX8_clapsFor 35 = .ok (.aload_n 0, 1) := by decide +kernel
theorem dX8_clapsFor_36 : decode cX8_clapsFor 36 = .ok (.iload_n 1, 1) := by decide +kernel
theorem dX8_clapsFor_37 : decode cX8_clapsFor 37 = .ok (.iconst 0, 1) := by decide +kernel
theorem dX8_clapsFor_38 : decode cX8_clapsFor 38 = .ok (.invokevirtual 61, 3) := by decide +kernel
theorem dX8_clapsFor_41 : decode cX8_clapsFor 41 = .ok (.imul, 1) := by decide +kernel
theorem dX8_clapsFor_42 : decode cX8_clapsFor 42 = .ok (.istore_n 2, 1) := by decide +kernel
theorem dX8_clapsFor_43 : decode cX8_clapsFor 43 = .ok (.iconst 1, 1) := by decide +kernel
theorem dX8_clapsFor_44 : decode cX8_clapsFor 44 = .ok (.istore_n 3, 1) := by decide +kernel
theorem dX8_clapsFor_45 : decode cX8_clapsFor 45 = .ok (.aload_n 0, 1) := by decide +kernel
theorem dX8_clapsFor_46 : decode cX8_clapsFor 46 = .ok (.getfield 7, 3) := by decide +kernel
theorem dX8_clapsFor_49 : decode cX8_clapsFor 49 = .ok (.bipush 6, 2) := by decide +kernel
theorem dX8_clapsFor_51 : decode cX8_clapsFor 51 = .ok (.iaload, 1) := by decide +kernel
theorem dX8_clapsFor_52 : decode cX8_clapsFor 52 = .ok (.iload_n 3, 1) := by decide +kernel
theorem dX8_clapsFor_53 : decode cX8_clapsFor 53 = .ok (.iload_n 2, 1) := by decide +kernel
theorem dX8_clapsFor_54 : decode cX8_clapsFor 54 = .ok (.imul, 1) := by decide +kernel
theorem dX8_clapsFor_55 : decode cX8_clapsFor 55 = .ok (.iadd, 1) := by decide +kernel
theorem dX8_clapsFor_56 : decode cX8_clapsFor 56 = .ok (.aload_n 0, 1) := by decide +kernel
theorem dX8_clapsFor_57 : decode cX8_clapsFor 57 = .ok (.getfield 7, 3) := by decide +kernel
theorem dX8_clapsFor_60 : decode cX8_clapsFor 60 = .ok (.iconst 1, 1) := by decide +kernel
theorem dX8_clapsFor_61 : decode cX8_clapsFor 61 = .ok (.iaload, 1) := by decide +kernel
theorem dX8_clapsFor_62 : decode cX8_clapsFor 62 = .ok (.if_icmp .ge 9, 3) := by decide +kernel
theorem dX8_clapsFor_65 : decode cX8_clapsFor 65 = .ok (.iinc 3 1, 3) := by decide +kernel
theorem dX8_clapsFor_68 : decode cX8_clapsFor 68 = .ok (.goto (-23), 3) := by decide +kernel
theorem dX8_clapsFor_71 : decode cX8_clapsFor 71 = .ok (.iload_n 3, 1) := by decide +kernel
theorem dX8_clapsFor_72 : decode cX8_clapsFor 72 = .ok (.ireturn, 1) := by decide +kernel
set_option maxRecDepth 20000 in
theorem ggX8_lapsesIn_X8_isPerformer : GoodIn wsX8_lapsesIn wsX8_isPerformer := goodIn_r _ [5, 6, 7, 4, 8] (by decide +kernel) (by decide +kernel)
set_option maxRecDepth 20000 in
theorem gX8_lapsesIn_X8_isPerformer : GoodIn wsX8_lapsesIn (va_wsS RX8 54 yX8_isPerformer wsX8_isPerformer) := goodIn_app (goodIn_of _ (by decide +kernel)) ggX8_lapsesIn_X8_isPerformer
set_option maxRecDepth 20000 in
theorem ggX8_lapsesIn_X8_earliest : GoodIn wsX8_lapsesIn wsX8_earliest := goodIn_r _ [12, 1, 17, 18, 19, 20, 21, 22, 23, 24, 25, 26, 27, 28] (by decide +kernel) (by decide +kernel)
set_option maxRecDepth 20000 in
theorem gX8_lapsesIn_X8_earliest : GoodIn wsX8_lapsesIn (wsV RX8 87 RX8 yX8_earliest wsX8_earliest) := goodIn_app (goodIn_of _ (by decide +kernel)) ggX8_lapsesIn_X8_earliest
set_option maxRecDepth 20000 in
theorem ggX8_lapsesIn_X8_owedFor : GoodIn wsX8_lapsesIn wsX8_owedFor := goodIn_r _ [16, 1, 17, 18, 19, 20, 21, 22, 23, 24, 25, 26, 27, 28] (by decide +kernel) (by decide +kernel)
set_option maxRecDepth 20000 in
theorem gX8_lapsesIn_X8_owedFor : GoodIn wsX8_lapsesIn (wsV RX8 77 RX8 yX8_owedFor wsX8_owedFor) := goodIn_app (goodIn_of _ (by decide +kernel)) ggX8_lapsesIn_X8_owedFor
theorem dX8_lapsesIn_0 : decode cX8_lapsesIn 0 = .ok (.iload_n 1, 1) := by decide +kernel
theorem dX8_lapsesIn_1 : decode cX8_lapsesIn 1 = .ok (.invokestatic 54, 3) := by decide +kernel
theorem dX8_lapsesIn_4 : decode cX8_lapsesIn 4 = .ok (.ifCond .ne 5, 3) := by decide +kernel
theorem dX8_lapsesIn_7 : decode cX8_lapsesIn 7 = .ok (.iconst (-1), 1) := by decide +kernel
theorem dX8_lapsesIn_8 : decode cX8_lapsesIn 8 = .ok (.ireturn, 1) := by decide +kernel
theorem dX8_lapsesIn_9 : decode cX8_lapsesIn 9 = .ok (.aload_n 0, 1) := by decide +kernel
theorem dX8_lapsesIn_10 : decode cX8_lapsesIn 10 = .ok (.iload_n 1, 1) := by decide +kernel
theorem dX8_lapsesIn_11 : decode cX8_lapsesIn 11 = .ok (.invokevirtual 87, 3) := by decide +kernel
theorem dX8_lapsesIn_14 : decode cX8_lapsesIn 14 = .ok (.istore_n 2, 1) := by decide +kernel
theorem dX8_lapsesIn_15 : decode cX8_lapsesIn 15 = .ok (.iload_n 2, 1) := by decide +kernel
theorem dX8_lapsesIn_16 : decode cX8_lapsesIn 16 = .ok (.bipush (-6), 2) := by decide +kernel
theorem dX8_lapsesIn_18 : decode cX8_lapsesIn 18 = .ok (.if_icmp .ne 6, 3) := by decide +kernel
theorem dX8_lapsesIn_21 : decode cX8_lapsesIn 21 = .ok (.bipush (-6), 2) := by decide +kernel
theorem dX8_lapsesIn_23 : decode cX8_lapsesIn 23 = .ok (.ireturn, 1) := by decide +kernel
theorem dX8_lapsesIn_24 : decode cX8_lapsesIn 24 = .ok (.aload_n 0, 1) := by decide +kernel
theorem dX8_lapsesIn_25 : decode cX8_lapsesIn 25 = .ok (.getfield 7, 3) := by decide +kernel
theorem dX8_lapsesIn_28 : decode cX8_lapsesIn 28 = .ok (.iconst 2, 1) := by decide +kernel
theorem dX8_lapsesIn_29 : decode cX8_lapsesIn 29 = .ok (.iaload, 1) := by decide +kernel
theorem dX8_lapsesIn_30 : decode cX8_lapsesIn 30 = .ok (.aload_n 0, 1) := by decide +kernel
theorem dX8_lapsesIn_31 : decode cX8_lapsesIn 31 = .ok (.iload_n 2, 1) := by decide +kernel
theorem dX8_lapsesIn_32 : decode cX8_lapsesIn 32 = .ok (.invokevirtual 77, 3) := by decide +kernel
theorem dX8_lapsesIn_35 : decode cX8_lapsesIn 35 = .ok (.isub, 1) := by decide +kernel
theorem dX8_lapsesIn_36 : decode cX8_lapsesIn 36 = .ok (.istore_n 3, 1) := by decide +kernel
theorem dX8_lapsesIn_37 : decode cX8_lapsesIn 37 = .ok (.iload_n 3, 1) := by decide +kernel
theorem dX8_lapsesIn_38 : decode cX8_lapsesIn 38 = .ok (.iconst 1, 1) := by decide +kernel
theorem dX8_lapsesIn_39 : decode cX8_lapsesIn 39 = .ok (.if_icmp .ge 7, 3) := by decide +kernel
theorem dX8_lapsesIn_42 : decode cX8_lapsesIn 42 = .ok (.iconst 1, 1) := by decide +kernel
theorem dX8_lapsesIn_43 : decode cX8_lapsesIn 43 = .ok (.goto 4, 3) := by decide +kernel
theorem dX8_lapsesIn_46 : decode cX8_lapsesIn 46 = .ok (.iload_n 3, 1) := by decide +kernel
theorem dX8_lapsesIn_47 : decode cX8_lapsesIn 47 = .ok (.ireturn, 1) := by decide +kernel
theorem dX8_calls_0 : decode cX8_calls 0 = .ok (.iconst 0, 1) := by decide +kernel
theorem dX8_calls_1 : decode cX8_calls 1 = .ok (.istore_n 1, 1) := by decide +kernel
theorem dX8_calls_2 : decode cX8_calls 2 = .ok (.aload_n 0, 1) := by decide +kernel
theorem dX8_calls_3 : decode cX8_calls 3 = .ok (.getfield 7, 3) := by decide +kernel
theorem dX8_calls_6 : decode cX8_calls 6 = .ok (.bipush 6, 2) := by decide +kernel
theorem dX8_calls_8 : decode cX8_calls 8 = .ok (.iaload, 1) := by decide +kernel
theorem dX8_calls_9 : decode cX8_calls 9 = .ok (.istore_n 2, 1) := by decide +kernel
theorem dX8_calls_10 : decode cX8_calls 10 = .ok (.iload_n 2, 1) := by decide +kernel
theorem dX8_calls_11 : decode cX8_calls 11 = .ok (.aload_n 0, 1) := by decide +kernel
theorem dX8_calls_12 : decode cX8_calls 12 = .ok (.getfield 7, 3) := by decide +kernel
theorem dX8_calls_15 : decode cX8_calls 15 = .ok (.iconst 5, 1) := by decide +kernel
theorem dX8_calls_16 : decode cX8_calls 16 = .ok (.iaload, 1) := by decide +kernel
theorem dX8_calls_17 : decode cX8_calls 17 = .ok (.if_icmp .lt 13, 3) := by decide +kernel
theorem dX8_calls_20 : decode cX8_calls 20 = .ok (.iload_n 2, 1) := by decide +kernel
theorem dX8_calls_21 : decode cX8_calls 21 = .ok (.iconst 2, 1) := by decide +kernel
theorem dX8_calls_22 : decode cX8_calls 22 = .ok (.idiv, 1) := by decide +kernel
theorem dX8_calls_23 : decode cX8_calls 23 = .ok (.istore_n 2, 1) := by decide +kernel
theorem dX8_calls_24 : decode cX8_calls 24 = .ok (.iinc 1 1, 3) := by decide +kernel
theorem dX8_calls_27 : decode cX8_calls 27 = .ok (.goto (-17), 3) := by decide +kernel
theorem dX8_calls_30 : decode cX8_calls 30 = .ok (.iload_n 1, 1) := by decide +kernel
theorem dX8_calls_31 : decode cX8_calls 31 = .ok (.ireturn, 1) := by decide +kernel
set_option maxRecDepth 20000 in
theorem ggX8_ifFound_X8_within : GoodIn wsX8_ifFound wsX8_within := goodIn_r _ [4] (by decide +kernel) (by decide +kernel)
set_option maxRecDepth 20000 in
theorem gX8_ifFound_X8_within : GoodIn wsX8_ifFound (va_wsS RX8 32 yX8_within wsX8_within) := goodIn_app (goodIn_of _ (by decide +kernel)) ggX8_ifFound_X8_within
set_option maxRecDepth 20000 in
theorem ggX8_ifFound_X8_those : GoodIn wsX8_ifFound wsX8_those := goodIn_r _ [8, 9, 10, 11, 3, 12, 13, 14, 15, 16, 17, 18, 19, 20, 21, 22, 23, 24, 25] (by decide +kernel) (by decide +kernel)
set_option maxRecDepth 20000 in
theorem gX8_ifFound_X8_those : GoodIn wsX8_ifFound (wsV RX8 96 RX8 yX8_those wsX8_those) := goodIn_app (goodIn_of _ (by decide +kernel)) ggX8_ifFound_X8_those
theorem dX8_ifFound_0 : decode cX8_ifFound 0 = .ok (.iload_n 1, 1) := by decide +kernel
theorem dX8_ifFound_1 : decode cX8_ifFound 1 = .ok (.iconst 1, 1) := by decide +kernel
theorem dX8_ifFound_2 : decode cX8_ifFound 2 = .ok (.bipush 9, 2) := by decide +kernel
theorem dX8_ifFound_4 : decode cX8_ifFound 4 = .ok (.invokestatic 32, 3) := by decide +kernel
theorem dX8_ifFound_7 : decode cX8_ifFound 7 = .ok (.ifCond .eq 12, 3) := by decide +kernel
theorem dX8_ifFound_10 : decode cX8_ifFound 10 = .ok (.aload_n 0, 1) := by decide +kernel
theorem dX8_ifFound_11 : decode cX8_ifFound 11 = .ok (.iconst 0, 1) := by decide +kernel
theorem dX8_ifFound_12 : decode cX8_ifFound 12 = .ok (.iload_n 1, 1) := by decide +kernel
theorem dX8_ifFound_13 : decode cX8_ifFound 13 = .ok (.invokevirtual 96, 3) := by decide +kernel
theorem dX8_ifFound_16 : decode cX8_ifFound 16 = .ok (.goto 5, 3) := by decide +kernel
theorem dX8_ifFound_19 : decode cX8_ifFound 19 = .ok (.bipush (-2), 2) := by decide +kernel
theorem dX8_ifFound_21 : decode cX8_ifFound 21 = .ok (.ireturn, 1) := by decide +kernel
set_option maxRecDepth 20000 in
theorem ggX8_isCharacter_X8_within : GoodIn wsX8_isCharacter wsX8_within := goodIn_r _ [4] (by decide +kernel) (by decide +kernel)
set_option maxRecDepth 20000 in
theorem gX8_isCharacter_X8_within : GoodIn wsX8_isCharacter (va_wsS RX8 32 yX8_within wsX8_within) := goodIn_app (goodIn_of _ (by decide +kernel)) ggX8_isCharacter_X8_within
theorem dX8_isCharacter_0 : decode cX8_isCharacter 0 = .ok (.iload_n 0, 1) := by decide +kernel
theorem dX8_isCharacter_1 : decode cX8_isCharacter 1 = .ok (.bipush 33, 2) := by decide +kernel
theorem dX8_isCharacter_3 : decode cX8_isCharacter 3 = .ok (.bipush 126, 2) := by decide +kernel
theorem dX8_isCharacter_5 : decode cX8_isCharacter 5 = .ok (.invokestatic 32, 3) := by decide +kernel
theorem dX8_isCharacter_8 : decode cX8_isCharacter 8 = .ok (.ireturn, 1) := by decide +kernel
set_option maxRecDepth 20000 in
theorem ggX8_charactersIn_X8_isCharacter : GoodIn wsX8_charactersIn wsX8_isCharacter := goodIn_r _ [5, 6, 7, 4, 8] (by decide +kernel) (by decide +kernel)
set_option maxRecDepth 20000 in
theorem gX8_charactersIn_X8_isCharacter : GoodIn wsX8_charactersIn (va_wsS RX8 148 yX8_isCharacter wsX8_isCharacter) := goodIn_app (goodIn_of _ (by decide +kernel)) ggX8_charactersIn_X8_isCharacter
theorem dX8_charactersIn_0 : decode cX8_charactersIn 0 = .ok (.iconst 0, 1) := by decide +kernel
theorem dX8_charactersIn_1 : decode cX8_charactersIn 1 = .ok (.istore_n 2, 1) := by decide +kernel
theorem dX8_charactersIn_2 : decode cX8_charactersIn 2 = .ok (.lload_n 0, 1) := by decide +kernel
theorem dX8_charactersIn_3 : decode cX8_charactersIn 3 = .ok (.lstore_n 3, 1) := by decide +kernel
theorem dX8_charactersIn_4 : decode cX8_charactersIn 4 = .ok (.iload_n 2, 1) := by decide +kernel
theorem dX8_charactersIn_5 : decode cX8_charactersIn 5 = .ok (.bipush 8, 2) := by decide +kernel
theorem dX8_charactersIn_7 : decode cX8_charactersIn 7 = .ok (.if_icmp .ge 38, 3) := by decide +kernel
theorem dX8_charactersIn_10 : decode cX8_charactersIn 10 = .ok (.lload_n 3, 1) := by decide +kernel
theorem dX8_charactersIn_11 : decode cX8_charactersIn 11 = .ok (.ldc2_w 146, 3) := by decide +kernel
theorem dX8_charactersIn_14 : decode cX8_charactersIn 14 = .ok (.land, 1) := by decide +kernel
theorem dX8_charactersIn_15 : decode cX8_charactersIn 15 = .ok (.lconst 0, 1) := by decide +kernel
theorem dX8_charactersIn_16 : decode cX8_charactersIn 16 = .ok (.lcmp, 1) := by decide +kernel
theorem dX8_charactersIn_17 : decode cX8_charactersIn 17 = .ok (.ifCond .eq 28, 3) := by decide +kernel
theorem dX8_charactersIn_20 : decode cX8_charactersIn 20 = .ok (.lload_n 3, 1) := by decide +kernel
theorem dX8_charactersIn_21 : decode cX8_charactersIn 21 = .ok (.ldc2_w 146, 3) := by decide +kernel
theorem dX8_charactersIn_24 : decode cX8_charactersIn 24 = .ok (.land, 1) := by decide +kernel
theorem dX8_charactersIn_25 : decode cX8_charactersIn 25 = .ok (.l2i, 1) := by decide +kernel
theorem dX8_charactersIn_26 : decode cX8_charactersIn 26 = .ok (.invokestatic 148, 3) := by decide +kernel
theorem dX8_charactersIn_29 : decode cX8_charactersIn 29 = .ok (.ifCond .ne 5, 3) := by decide +kernel
theorem dX8_charactersIn_32 : decode cX8_charactersIn 32 = .ok (.iconst 0, 1) := by decide +kernel
theorem dX8_charactersIn_33 : decode cX8_charactersIn 33 = .ok (.ireturn, 1) := by decide +kernel
theorem dX8_charactersIn_34 : decode cX8_charactersIn 34 = .ok (.lload_n 3, 1) := by decide +kernel
theorem dX8_charactersIn_35 : decode cX8_charactersIn 35 = .ok (.bipush 8, 2) := by decide +kernel
theorem dX8_charactersIn_37 : decode cX8_charactersIn 37 = .ok (.lushr, 1) := by decide +kernel
theorem dX8_charactersIn_38 : decode cX8_charactersIn 38 = .ok (.lstore_n 3, 1) := by decide +kernel
theorem dX8_charactersIn_39 : decode cX8_charactersIn 39 = .ok (.iinc 2 1, 3) := by decide +kernel
theorem dX8_charactersIn_42 : decode cX8_charactersIn 42 = .ok (.goto (-38), 3) := by decide +kernel
theorem dX8_charactersIn_45 : decode cX8_charactersIn 45 = .ok (.lload_n 3, 1) := by decide +kernel
theorem dX8_charactersIn_46 : decode cX8_charactersIn 46 = .ok (.lconst 0, 1) := by decide +kernel
theorem dX8_charactersIn_47 : decode cX8_charactersIn 47 = .ok (.lcmp, 1) := by decide +kernel
theorem dX8_charactersIn_48 : decode cX8_charactersIn 48 = .ok (.ifCond .ne 7, 3) := by decide +kernel
theorem dX8_charactersIn_51 : decode cX8_charactersIn 51 = .ok (.iload_n 2, 1) := by decide +kernel
theorem dX8_charactersIn_52 : decode cX8_charactersIn 52 = .ok (.goto 4, 3) := by decide +kernel
theorem dX8_charactersIn_55 : decode cX8_charactersIn 55 = .ok (.iconst 0, 1) := by decide +kernel
theorem dX8_charactersIn_56 : decode cX8_charactersIn 56 = .ok (.ireturn, 1) := by decide +kernel
set_option maxRecDepth 20000 in
theorem ggX8_put_X8_charactersIn : GoodIn wsX8_put wsX8_charactersIn := goodIn_r _ [6, 2, 7, 8, 5, 9, 10, 11, 12] (by decide +kernel) (by decide +kernel)
set_option maxRecDepth 20000 in
theorem gX8_put_X8_charactersIn : GoodIn wsX8_put (va_wsS RX8 151 yX8_charactersIn wsX8_charactersIn) := goodIn_app (goodIn_of _ (by decide +kernel)) ggX8_put_X8_charactersIn
set_option maxRecDepth 20000 in
theorem ggX8_put_X8_writeSign : GoodIn wsX8_put wsX8_writeSign := goodIn_r _ [16, 17, 1, 18, 19, 20, 21, 22, 23, 24, 25, 26, 27, 28, 29] (by decide +kernel) (by decide +kernel)
set_option maxRecDepth 20000 in
theorem gX8_put_X8_writeSign : GoodIn wsX8_put (wsV RX8 134 RX8 yX8_writeSign wsX8_writeSign) := goodIn_app (goodIn_of _ (by decide +kernel)) ggX8_put_X8_writeSign
theorem dX8_put_0 : decode cX8_put 0 = .ok (.lload_n 1, 1) := by decide +kernel
theorem dX8_put_1 : decode cX8_put 1 = .ok (.invokestatic 151, 3) := by decide +kernel
theorem dX8_put_4 : decode cX8_put 4 = .ok (.istore_n 3, 1) := by decide +kernel
theorem dX8_put_5 : decode cX8_put 5 = .ok (.iload_n 3, 1) := by decide +kernel
theorem dX8_put_6 : decode cX8_put 6 = .ok (.ifCond .ne 6, 3) := by decide +kernel
theorem dX8_put_9 : decode cX8_put 9 = .ok (.bipush (-2), 2) := by decide +kernel
theorem dX8_put_11 : decode cX8_put 11 = .ok (.ireturn, 1) := by decide +kernel
theorem dX8_put_12 : decode cX8_put 12 = .ok (.aload_n 0, 1) := by decide +kernel
theorem dX8_put_13 : decode cX8_put 13 = .ok (.getfield 131, 3) := by decide +kernel
theorem dX8_put_16 : decode cX8_put 16 = .ok (.iload_n 3, 1) := by decide +kernel
theorem dX8_put_17 : decode cX8_put 17 = .ok (.iadd, 1) := by decide +kernel
theorem dX8_put_18 : decode cX8_put 18 = .ok (.bipush 80, 2) := by decide +kernel
theorem dX8_put_20 : decode cX8_put 20 = .ok (.if_icmp .le 6, 3) := by decide +kernel
theorem dX8_put_23 : decode cX8_put 23 = .ok (.bipush (-4), 2) := by decide +kernel
theorem dX8_put_25 : decode cX8_put 25 = .ok (.ireturn, 1) := by decide +kernel
theorem dX8_put_26 : decode cX8_put 26 = .ok (.iload_n 3, 1) := by decide +kernel
theorem dX8_put_27 : decode cX8_put 27 = .ok (.iconst 1, 1) := by decide +kernel
theorem dX8_put_28 : decode cX8_put 28 = .ok (.isub, 1) := by decide +kernel
theorem dX8_put_29 : decode cX8_put 29 = .ok (.istore 4, 2) := by decide +kernel
theorem dX8_put_31 : decode cX8_put 31 = .ok (.iload 4, 2) := by decide +kernel
theorem dX8_put_33 : decode cX8_put 33 = .ok (.ifCond .lt 25, 3) := by decide +kernel
theorem dX8_put_36 : decode cX8_put 36 = .ok (.aload_n 0, 1) := by decide +kernel
theorem dX8_put_37 : decode cX8_put 37 = .ok (.lload_n 1, 1) := by decide +kernel
theorem dX8_put_38 : decode cX8_put 38 = .ok (.bipush 8, 2) := by decide +kernel
theorem dX8_put_40 : decode cX8_put 40 = .ok (.iload 4, 2) := by decide +kernel
theorem dX8_put_42 : decode cX8_put 42 = .ok (.imul, 1) := by decide +kernel
theorem dX8_put_43 : decode cX8_put 43 = .ok (.lshr, 1) := by decide +kernel
theorem dX8_put_44 : decode cX8_put 44 = .ok (.ldc2_w 146, 3) := by decide +kernel
theorem dX8_put_47 : decode cX8_put 47 = .ok (.land, 1) := by decide +kernel
theorem dX8_put_48 : decode cX8_put 48 = .ok (.l2i, 1) := by decide +kernel
theorem dX8_put_49 : decode cX8_put 49 = .ok (.invokevirtual 134, 3) := by decide +kernel
theorem dX8_put_52 : decode cX8_put 52 = .ok (.iinc 4 (-1), 3) := by decide +kernel
theorem dX8_put_55 : decode cX8_put 55 = .ok (.goto (-24), 3) := by decide +kernel
theorem dX8_put_58 : decode cX8_put 58 = .ok (.aload_n 0, 1) := by decide +kernel
theorem dX8_put_59 : decode cX8_put 59 = .ok (.getfield 131, 3) := by decide +kernel
theorem dX8_put_62 : decode cX8_put 62 = .ok (.ireturn, 1) := by decide +kernel
theorem dX8_wipe_0 : decode cX8_wipe 0 = .ok (.aload_n 0, 1) := by decide +kernel
theorem dX8_wipe_1 : decode cX8_wipe 1 = .ok (.getfield 131, 3) := by decide +kernel
theorem dX8_wipe_4 : decode cX8_wipe 4 = .ok (.istore_n 1, 1) := by decide +kernel
theorem dX8_wipe_5 : decode cX8_wipe 5 = .ok (.aload_n 0, 1) := by decide +kernel
theorem dX8_wipe_6 : decode cX8_wipe 6 = .ok (.iconst 0, 1) := by decide +kernel
theorem dX8_wipe_7 : decode cX8_wipe 7 = .ok (.putfield 131, 3) := by decide +kernel
theorem dX8_wipe_10 : decode cX8_wipe 10 = .ok (.iload_n 1, 1) := by decide +kernel
theorem dX8_wipe_11 : decode cX8_wipe 11 = .ok (.ireturn, 1) := by decide +kernel
theorem dX8_code_0 : decode cX8_code 0 = .ok (.aload_n 0, 1) := by decide +kernel
theorem dX8_code_1 : decode cX8_code 1 = .ok (.getfield 155, 3) := by decide +kernel
theorem dX8_code_4 : decode cX8_code 4 = .ok (.aload_n 0, 1) := by decide +kernel
theorem dX8_code_5 : decode cX8_code 5 = .ok (.getfield 131, 3) := by decide +kernel
theorem dX8_code_8 : decode cX8_code 8 = .ok (.if_icmp .ge 15, 3) := by decide +kernel
theorem dX8_code_11 : decode cX8_code 11 = .ok (.aload_n 0, 1) := by decide +kernel
theorem dX8_code_12 : decode cX8_code 12 = .ok (.getfield 25, 3) := by decide +kernel
theorem dX8_code_15 : decode cX8_code 15 = .ok (.aload_n 0, 1) := by decide +kernel
theorem dX8_code_16 : decode cX8_code 16 = .ok (.getfield 155, 3) := by decide +kernel
theorem dX8_code_19 : decode cX8_code 19 = .ok (.iaload, 1) := by decide +kernel
theorem dX8_code_20 : decode cX8_code 20 = .ok (.goto 4, 3) := by decide +kernel
theorem dX8_code_23 : decode cX8_code 23 = .ok (.iconst 0, 1) := by decide +kernel
theorem dX8_code_24 : decode cX8_code 24 = .ok (.ireturn, 1) := by decide +kernel
set_option maxRecDepth 20000 in
theorem ggX8_takes_X8_code : GoodIn wsX8_takes wsX8_code := goodIn_r _ [6, 1, 7, 8, 9, 10, 11, 12, 13, 14, 15, 16, 17, 18, 19, 20] (by decide +kernel) (by decide +kernel)
set_option maxRecDepth 20000 in
theorem gX8_takes_X8_code : GoodIn wsX8_takes (wsV RX8 158 RX8 yX8_code wsX8_code) := goodIn_app (goodIn_of _ (by decide +kernel)) ggX8_takes_X8_code
theorem dX8_takes_0 : decode cX8_takes 0 = .ok (.aload_n 0, 1) := by decide +kernel
theorem dX8_takes_1 : decode cX8_takes 1 = .ok (.invokevirtual 158, 3) := by decide +kernel
theorem dX8_takes_4 : decode cX8_takes 4 = .ok (.iload_n 1, 1) := by decide +kernel
theorem dX8_takes_5 : decode cX8_takes 5 = .ok (.if_icmp .ne 7, 3) := by decide +kernel
theorem dX8_takes_8 : decode cX8_takes 8 = .ok (.iconst 1, 1) := by decide +kernel
theorem dX8_takes_9 : decode cX8_takes 9 = .ok (.goto 4, 3) := by decide +kernel
theorem dX8_takes_12 : decode cX8_takes 12 = .ok (.iconst 0, 1) := by decide +kernel
theorem dX8_takes_13 : decode cX8_takes 13 = .ok (.istore_n 2, 1) := by decide +kernel
theorem dX8_takes_14 : decode cX8_takes 14 = .ok (.aload_n 0, 1) := by decide +kernel
theorem dX8_takes_15 : decode cX8_takes 15 = .ok (.dup, 1) := by decide +kernel
theorem dX8_takes_16 : decode cX8_takes 16 = .ok (.getfield 155, 3) := by decide +kernel
theorem dX8_takes_19 : decode cX8_takes 19 = .ok (.iload_n 2, 1) := by decide +kernel
theorem dX8_takes_20 : decode cX8_takes 20 = .ok (.ifCond .eq 7, 3) := by decide +kernel
theorem dX8_takes_23 : decode cX8_takes 23 = .ok (.iconst 1, 1) := by decide +kernel
theorem dX8_takes_24 : decode cX8_takes 24 = .ok (.goto 4, 3) := by decide +kernel
theorem dX8_takes_27 : decode cX8_takes 27 = .ok (.iconst 0, 1) := by decide +kernel
theorem dX8_takes_28 : decode cX8_takes 28 = .ok (.iadd, 1) := by decide +kernel
theorem dX8_takes_29 : decode cX8_takes 29 = .ok (.putfield 155, 3) := by decide +kernel
theorem dX8_takes_32 : decode cX8_takes 32 = .ok (.iload_n 2, 1) := by decide +kernel
theorem dX8_takes_33 : decode cX8_takes 33 = .ok (.ireturn, 1) := by decide +kernel
set_option maxRecDepth 20000 in
theorem ggX8_takeDigit_X8_code : GoodIn wsX8_takeDigit wsX8_code := goodIn_r _ [6, 1, 7, 8, 12, 13, 14, 15, 16, 17, 18, 19, 20, 21, 22, 23] (by decide +kernel) (by decide +kernel)
set_option maxRecDepth 20000 in
theorem gX8_takeDigit_X8_code : GoodIn wsX8_takeDigit (wsV RX8 158 RX8 yX8_code wsX8_code) := goodIn_app (goodIn_of _ (by decide +kernel)) ggX8_takeDigit_X8_code
set_option maxRecDepth 20000 in
theorem ggX8_takeDigit_X8_within : GoodIn wsX8_takeDigit wsX8_within := goodIn_r _ [11] (by decide +kernel) (by decide +kernel)
set_option maxRecDepth 20000 in
theorem gX8_takeDigit_X8_within : GoodIn wsX8_takeDigit (va_wsS RX8 32 yX8_within wsX8_within) := goodIn_app (goodIn_of _ (by decide +kernel)) ggX8_takeDigit_X8_within
theorem dX8_takeDigit_0 : decode cX8_takeDigit 0 = .ok (.aload_n 0, 1) := by decide +kernel
theorem dX8_takeDigit_1 : decode cX8_takeDigit 1 = .ok (.invokevirtual 158, 3) := by decide +kernel
theorem dX8_takeDigit_4 : decode cX8_takeDigit 4 = .ok (.bipush 48, 2) := by decide +kernel
theorem dX8_takeDigit_6 : decode cX8_takeDigit 6 = .ok (.isub, 1) := by decide +kernel
theorem dX8_takeDigit_7 : decode cX8_takeDigit 7 = .ok (.istore_n 1, 1) := by decide +kernel
theorem dX8_takeDigit_8 : decode cX8_takeDigit 8 = .ok (.iload_n 1, 1) := by decide +kernel
theorem dX8_takeDigit_9 : decode cX8_takeDigit 9 = .ok (.iconst 0, 1) := by decide +kernel
theorem dX8_takeDigit_10 : decode cX8_takeDigit 10 = .ok (.bipush 9, 2) := by decide +kernel
theorem dX8_takeDigit_12 : decode cX8_takeDigit 12 = .ok (.invokestatic 32, 3) := by decide +kernel
theorem dX8_takeDigit_15 : decode cX8_takeDigit 15 = .ok (.istore_n 2, 1) := by decide +kernel
theorem dX8_takeDigit_16 : decode cX8_takeDigit 16 = .ok (.aload_n 0, 1) := by decide +kernel
theorem dX8_takeDigit_17 : decode cX8_takeDigit 17 = .ok (.dup, 1) := by decide +kernel
theorem dX8_takeDigit_18 : decode cX8_takeDigit 18 = .ok (.getfield 155, 3) := by decide +kernel
theorem dX8_takeDigit_21 : decode cX8_takeDigit 21 = .ok (.iload_n 2, 1) := by decide +kernel
theorem dX8_takeDigit_22 : decode cX8_takeDigit 22 = .ok (.ifCond .eq 7, 3) := by decide +kernel
theorem dX8_takeDigit_25 : decode cX8_takeDigit 25 = .ok (.iconst 1, 1) := by decide +kernel
theorem dX8_takeDigit_26 : decode cX8_takeDigit 26 = .ok (.goto 4, 3) := by decide +kernel
theorem dX8_takeDigit_29 : decode cX8_takeDigit 29 = .ok (.iconst 0, 1) := by decide +kernel
theorem dX8_takeDigit_30 : decode cX8_takeDigit 30 = .ok (.iadd, 1) := by decide +kernel
theorem dX8_takeDigit_31 : decode cX8_takeDigit 31 = .ok (.putfield 155, 3) := by decide +kernel
theorem dX8_takeDigit_34 : decode cX8_takeDigit 34 = .ok (.iload_n 2, 1) := by decide +kernel
theorem dX8_takeDigit_35 : decode cX8_takeDigit 35 = .ok (.ifCond .eq 7, 3) := by decide +kernel
theorem dX8_takeDigit_38 : decode cX8_takeDigit 38 = .ok (.iload_n 1, 1) := by decide +kernel
theorem dX8_takeDigit_39 : decode cX8_takeDigit 39 = .ok (.goto 5, 3) := by decide +kernel
theorem dX8_takeDigit_42 : decode cX8_takeDigit 42 = .ok (.bipush (-6), 2) := by decide +kernel
theorem dX8_takeDigit_44 : decode cX8_takeDigit 44 = .ok (.ireturn, 1) := by decide +kernel
set_option maxRecDepth 20000 in
theorem ggX8_readNumber_X8_takeDigit : GoodIn wsX8_readNumber wsX8_takeDigit := goodIn_r _ [5, 6, 7, 8, 9, 4, 10, 11, 12, 13, 14, 15, 16, 17, 18, 19, 20, 21, 22, 23, 24, 25, 26, 27] (by decide +kernel) (by decide +kernel)
set_option maxRecDepth 20000 in
theorem gX8_readNumber_X8_takeDigit : GoodIn wsX8_readNumber (wsV RX8 161 RX8 yX8_takeDigit wsX8_takeDigit) := goodIn_app (goodIn_of _ (by decide +kernel)) ggX8_readNumber_X8_takeDigit
set_option maxRecDepth 20000 in
theorem ggX8_readNumber_X8_code : GoodIn wsX8_readNumber wsX8_code := goodIn_r _ [10, 6, 11, 12, 16, 17, 18, 19, 20, 21, 22, 23, 24, 25, 26, 27] (by decide +kernel) (by decide +kernel)
set_option maxRecDepth 20000 in
theorem gX8_readNumber_X8_code : GoodIn wsX8_readNumber (wsV RX8 158 RX8 yX8_code wsX8_code) := goodIn_app (goodIn_of _ (by decide +kernel)) ggX8_readNumber_X8_code
set_option maxRecDepth 20000 in
theorem ggX8_readNumber_X8_within : GoodIn wsX8_readNumber wsX8_within := goodIn_r _ [15] (by decide +kernel) (by decide +kernel)
set_option maxRecDepth 20000 in
theorem gX8_readNumber_X8_within : GoodIn wsX8_readNumber (va_wsS RX8 32 yX8_within wsX8_within) := goodIn_app (goodIn_of _ (by decide +kernel)) ggX8_readNumber_X8_within
theorem dX8_readNumber_0 : decode cX8_readNumber 0 = .ok (.aload_n 0, 1) := by decide +kernel
theorem dX8_readNumber_1 : decode cX8_readNumber 1 = .ok (.invokevirtual 161, 3) := by decide +kernel
theorem dX8_readNumber_4 : decode cX8_readNumber 4 = .ok (.istore_n 1, 1) := by decide +kernel
theorem dX8_readNumber_5 : decode cX8_readNumber 5 = .ok (.iload_n 1, 1) := by decide +kernel
theorem dX8_readNumber_6 : decode cX8_readNumber 6 = .ok (.ifCond .le 29, 3) := by decide +kernel
theorem dX8_readNumber_9 : decode cX8_readNumber 9 = .ok (.aload_n 0, 1) := by decide +kernel
theorem dX8_readNumber_10 : decode cX8_readNumber 10 = .ok (.invokevirtual 158, 3) := by decide +kernel
theorem dX8_readNumber_13 : decode cX8_readNumber 13 = .ok (.bipush 48, 2) := by decide +kernel
theorem dX8_readNumber_15 : decode cX8_readNumber 15 = .ok (.bipush 57, 2) := by decide +kernel
theorem dX8_readNumber_17 : decode cX8_readNumber 17 = .ok (.invokestatic 32, 3) := by decide +kernel
theorem dX8_readNumber_20 : decode cX8_readNumber 20 = .ok (.ifCond .eq 15, 3) := by decide +kernel
theorem dX8_readNumber_23 : decode cX8_readNumber 23 = .ok (.bipush 10, 2) := by decide +kernel
theorem dX8_readNumber_25 : decode cX8_readNumber 25 = .ok (.iload_n 1, 1) := by decide +kernel
theorem dX8_readNumber_26 : decode cX8_readNumber 26 = .ok (.imul, 1) := by decide +kernel
theorem dX8_readNumber_27 : decode cX8_readNumber 27 = .ok (.aload_n 0, 1) := by decide +kernel
theorem dX8_readNumber_28 : decode cX8_readNumber 28 = .ok (.invokevirtual 161, 3) := by decide +kernel
theorem dX8_readNumber_31 : decode cX8_readNumber 31 = .ok (.iadd, 1) := by decide +kernel
theorem dX8_readNumber_32 : decode cX8_readNumber 32 = .ok (.goto 4, 3) := by decide +kernel
theorem dX8_readNumber_35 : decode cX8_readNumber 35 = .ok (.iload_n 1, 1) := by decide +kernel
theorem dX8_readNumber_36 : decode cX8_readNumber 36 = .ok (.ireturn, 1) := by decide +kernel
set_option maxRecDepth 20000 in
theorem ggX8_readsClaps_X8_readNumber : GoodIn wsX8_readsClaps wsX8_readNumber := goodIn_r _ [7, 8, 9, 10, 6, 11, 12, 13, 14, 15, 16, 17, 18, 19, 20, 21, 26, 27, 28, 29, 30, 31, 32, 33, 34, 35, 36, 37] (by decide +kernel) (by decide +kernel)
set_option maxRecDepth 20000 in
theorem gX8_readsClaps_X8_readNumber : GoodIn wsX8_readsClaps (wsV RX8 164 RX8 yX8_readNumber wsX8_readNumber) := goodIn_app (goodIn_of _ (by decide +kernel)) ggX8_readsClaps_X8_readNumber
set_option maxRecDepth 20000 in
theorem ggX8_readsClaps_X8_takes : GoodIn wsX8_readsClaps wsX8_takes := goodIn_r _ [25, 12, 13, 14, 15, 6, 16, 17, 18, 26, 27, 28, 29, 30, 31, 32, 33, 34, 35, 36, 37] (by decide +kernel) (by decide +kernel)
set_option maxRecDepth 20000 in
theorem gX8_readsClaps_X8_takes : GoodIn wsX8_readsClaps (wsV RX8 170 RX8 yX8_takes wsX8_takes) := goodIn_app (goodIn_of _ (by decide +kernel)) ggX8_readsClaps_X8_takes
theorem dX8_readsClaps_0 : decode cX8_readsClaps 0 = .ok (.aload_n 0, 1) := by decide +kernel
theorem dX8_readsClaps_1 : decode cX8_readsClaps 1 = .ok (.aload_n 0, 1) := by decide +kernel
theorem dX8_readsClaps_2 : decode cX8_readsClaps 2 = .ok (.invokevirtual 164, 3) := by decide +kernel
theorem dX8_readsClaps_5 : decode cX8_readsClaps 5 = .ok (.putfield 167, 3) := by decide +kernel
theorem dX8_readsClaps_8 : decode cX8_readsClaps 8 = .ok (.aload_n 0, 1) := by decide +kernel
theorem dX8_readsClaps_9 : decode cX8_readsClaps 9 = .ok (.getfield 167, 3) := by decide +kernel
theorem dX8_readsClaps_12 : decode cX8_readsClaps 12 = .ok (.bipush (-6), 2) := by decide +kernel
theorem dX8_readsClaps_14 : decode cX8_readsClaps 14 = .ok (.if_icmp .eq 20, 3) := by decide +kernel
theorem dX8_readsClaps_17 : decode cX8_readsClaps 17 = .ok (.aload_n 0, 1) := by decide +kernel
theorem dX8_readsClaps_18 : decode cX8_readsClaps 18 = .ok (.bipush 42, 2) := by decide +kernel
theorem dX8_readsClaps_20 : decode cX8_readsClaps 20 = .ok (.invokevirtual 170, 3) := by decide +kernel
theorem dX8_readsClaps_23 : decode cX8_readsClaps 23 = .ok (.ifCond .eq 11, 3) := by decide +kernel
theorem dX8_readsClaps_26 : decode cX8_readsClaps 26 = .ok (.aload_n 0, 1) := by decide +kernel
theorem dX8_readsClaps_27 : decode cX8_readsClaps 27 = .ok (.aload_n 0, 1) := by decide +kernel
theorem dX8_readsClaps_28 : decode cX8_readsClaps 28 = .ok (.invokevirtual 164, 3) := by decide +kernel
theorem dX8_readsClaps_31 : decode cX8_readsClaps 31 = .ok (.putfield 173, 3) := by decide +kernel
theorem dX8_readsClaps_34 : decode cX8_readsClaps 34 = .ok (.aload_n 0, 1) := by decide +kernel
theorem dX8_readsClaps_35 : decode cX8_readsClaps 35 = .ok (.getfield 167, 3) := by decide +kernel
theorem dX8_readsClaps_38 : decode cX8_readsClaps 38 = .ok (.bipush (-6), 2) := by decide +kernel
theorem dX8_readsClaps_40 : decode cX8_readsClaps 40 = .ok (.if_icmp .eq 16, 3) := by decide +kernel
theorem dX8_readsClaps_43 : decode cX8_readsClaps 43 = .ok (.aload_n 0, 1) := by decide +kernel
theorem dX8_readsClaps_44 : decode cX8_readsClaps 44 = .ok (.getfield 173, 3) := by decide +kernel
theorem dX8_readsClaps_47 : decode cX8_readsClaps 47 = .ok (.bipush (-6), 2) := by decide +kernel
theorem dX8_readsClaps_49 : decode cX8_readsClaps 49 = .ok (.if_icmp .eq 7, 3) := by decide +kernel
theorem dX8_readsClaps_52 : decode cX8_readsClaps 52 = .ok (.iconst 1, 1) := by decide +kernel
theorem dX8_readsClaps_53 : decode cX8_readsClaps 53 = .ok (.goto 4, 3) := by decide +kernel
theorem dX8_readsClaps_56 : decode cX8_readsClaps 56 = .ok (.iconst 0, 1) := by decide +kernel
theorem dX8_readsClaps_57 : decode cX8_readsClaps 57 = .ok (.ireturn, 1) := by decide +kernel
set_option maxRecDepth 20000 in
theorem ggX8_readsOrder_X8_code : GoodIn wsX8_readsOrder wsX8_code := goodIn_r _ [9, 3, 10, 11, 31, 32, 33, 34, 35, 36, 37, 38, 39, 40, 41, 42] (by decide +kernel) (by decide +kernel)
set_option maxRecDepth 20000 in
theorem gX8_readsOrder_X8_code : GoodIn wsX8_readsOrder (wsV RX8 158 RX8 yX8_code wsX8_code) := goodIn_app (goodIn_of _ (by decide +kernel)) ggX8_readsOrder_X8_code
set_option maxRecDepth 20000 in
theorem ggX8_readsOrder_X8_takeDigit : GoodIn wsX8_readsOrder wsX8_takeDigit := goodIn_r _ [15, 3, 5, 6, 7, 8, 9, 10, 11, 16, 17, 18, 31, 32, 33, 34, 35, 36, 37, 38, 39, 40, 41, 42] (by decide +kernel) (by decide +kernel)
set_option maxRecDepth 20000 in
theorem gX8_readsOrder_X8_takeDigit : GoodIn wsX8_readsOrder (wsV RX8 161 RX8 yX8_takeDigit wsX8_takeDigit) := goodIn_app (goodIn_of _ (by decide +kernel)) ggX8_readsOrder_X8_takeDigit
set_option maxRecDepth 20000 in
theorem ggX8_readsOrder_X8_readNumber : GoodIn wsX8_readsOrder wsX8_readNumber := goodIn_r _ [22, 12, 13, 14, 8, 15, 3, 5, 6, 7, 9, 10, 11, 16, 17, 18, 31, 32, 33, 34, 35, 36, 37, 38, 39, 40, 41, 42] (by decide +kernel) (by decide +kernel)
set_option maxRecDepth 20000 in
theorem gX8_readsOrder_X8_readNumber : GoodIn wsX8_readsOrder (wsV RX8 164 RX8 yX8_readNumber wsX8_readNumber) := goodIn_app (goodIn_of _ (by decide +kernel)) ggX8_readsOrder_X8_readNumber
set_option maxRecDepth 20000 in
theorem ggX8_readsOrder_X8_readsClaps : GoodIn wsX8_readsOrder wsX8_readsClaps := goodIn_r _ [26, 4, 2, 19, 20, 21, 8, 22, 12, 13, 14, 15, 3, 5, 6, 7, 9, 10, 11, 16, 17, 18, 27, 28, 29, 30, 31, 32, 33, 34, 35, 36, 37, 38, 39, 40, 41, 42] (by decide +kernel) (by decide +kernel)
set_option maxRecDepth 20000 in
theorem gX8_readsOrder_X8_readsClaps : GoodIn wsX8_readsOrder (wsV RX8 179 RX8 yX8_readsClaps wsX8_readsClaps) := goodIn_app (goodIn_of _ (by decide +kernel)) ggX8_readsOrder_X8_readsClaps
theorem dX8_readsOrder_0 : decode cX8_readsOrder 0 = .ok (.aload_n 0, 1) := by decide +kernel
theorem dX8_readsOrder_1 : decode cX8_readsOrder 1 = .ok (.aload_n 0, 1) := by decide +kernel
theorem dX8_readsOrder_2 : decode cX8_readsOrder 2 = .ok (.invokevirtual 158, 3) := by decide +kernel
theorem dX8_readsOrder_5 : decode cX8_readsOrder 5 = .ok (.putfield 176, 3) := by decide +kernel
theorem dX8_readsOrder_8 : decode cX8_readsOrder 8 = .ok (.aload_n 0, 1) := by decide +kernel
theorem dX8_readsOrder_9 : decode cX8_readsOrder 9 = .ok (.iconst 1, 1) := by decide +kernel
theorem dX8_readsOrder_10 : decode cX8_readsOrder 10 = .ok (.putfield 173, 3) := by decide +kernel
theorem dX8_readsOrder_13 : decode cX8_readsOrder 13 = .ok (.aload_n 0, 1) := by decide +kernel
theorem dX8_readsOrder_14 : decode cX8_readsOrder 14 = .ok (.getfield 176, 3) := by decide +kernel
theorem dX8_readsOrder_17 : decode cX8_readsOrder 17 = .ok (.tableswitch 192 99 119 #[165, 192, 99, 192, 192, 132, 192, 192, 180, 192, 192, 180, 192, 99, 192, 192, 192, 192, 192, 192, 132], 99) := by decide +kernel
theorem dX8_readsOrder_116 : decode cX8_readsOrder 116 = .ok (.aload_n 0, 1) := by decide +kernel
theorem dX8_readsOrder_117 : decode cX8_readsOrder 117 = .ok (.dup, 1) := by decide +kernel
theorem dX8_readsOrder_118 : decode cX8_readsOrder 118 = .ok (.getfield 155, 3) := by decide +kernel
theorem dX8_readsOrder_121 : decode cX8_readsOrder 121 = .ok (.iconst 1, 1) := by decide +kernel
theorem dX8_readsOrder_122 : decode cX8_readsOrder 122 = .ok (.iadd, 1) := by decide +kernel
theorem dX8_readsOrder_123 : decode cX8_readsOrder 123 = .ok (.putfield 155, 3) := by decide +kernel
theorem dX8_readsOrder_126 : decode cX8_readsOrder 126 = .ok (.aload_n 0, 1) := by decide +kernel
theorem dX8_readsOrder_127 : decode cX8_readsOrder 127 = .ok (.aload_n 0, 1) := by decide +kernel
theorem dX8_readsOrder_128 : decode cX8_readsOrder 128 = .ok (.invokevirtual 161, 3) := by decide +kernel
theorem dX8_readsOrder_131 : decode cX8_readsOrder 131 = .ok (.putfield 167, 3) := by decide +kernel
theorem dX8_readsOrder_134 : decode cX8_readsOrder 134 = .ok (.aload_n 0, 1) := by decide +kernel
theorem dX8_readsOrder_135 : decode cX8_readsOrder 135 = .ok (.getfield 167, 3) := by decide +kernel
theorem dX8_readsOrder_138 : decode cX8_readsOrder 138 = .ok (.bipush (-6), 2) := by decide +kernel
theorem dX8_readsOrder_140 : decode cX8_readsOrder 140 = .ok (.if_icmp .eq 7, 3) := by decide +kernel
theorem dX8_readsOrder_143 : decode cX8_readsOrder 143 = .ok (.iconst 1, 1) := by decide +kernel
theorem dX8_readsOrder_144 : decode cX8_readsOrder 144 = .ok (.goto 4, 3) := by decide +kernel
theorem dX8_readsOrder_147 : decode cX8_readsOrder 147 = .ok (.iconst 0, 1) := by decide +kernel
theorem dX8_readsOrder_148 : decode cX8_readsOrder 148 = .ok (.ireturn, 1) := by decide +kernel
theorem dX8_readsOrder_149 : decode cX8_readsOrder 149 = .ok (.aload_n 0, 1) := by decide +kernel
theorem dX8_readsOrder_150 : decode cX8_readsOrder 150 = .ok (.dup, 1) := by decide +kernel
theorem dX8_readsOrder_151 : decode cX8_readsOrder 151 = .ok (.getfield 155, 3) := by decide +kernel
theorem dX8_readsOrder_154 : decode cX8_readsOrder 154 = .ok (.iconst 1, 1) := by decide +kernel
theorem dX8_readsOrder_155 : decode cX8_readsOrder 155 = .ok (.iadd, 1) := by decide +kernel
theorem dX8_readsOrder_156 : decode cX8_readsOrder 156 = .ok (.putfield 155, 3) := by decide +kernel
theorem dX8_readsOrder_159 : decode cX8_readsOrder 159 = .ok (.aload_n 0, 1) := by decide +kernel
theorem dX8_readsOrder_160 : decode cX8_readsOrder 160 = .ok (.aload_n 0, 1) := by decide +kernel
theorem dX8_readsOrder_161 : decode cX8_readsOrder 161 = .ok (.invokevirtual 164, 3) := by decide +kernel
theorem dX8_readsOrder_164 : decode cX8_readsOrder 164 = .ok (.putfield 167, 3) := by decide +kernel
theorem dX8_readsOrder_167 : decode cX8_readsOrder 167 = .ok (.aload_n 0, 1) := by decide +kernel
theorem dX8_readsOrder_168 : decode cX8_readsOrder 168 = .ok (.getfield 167, 3) := by decide +kernel
theorem dX8_readsOrder_171 : decode cX8_readsOrder 171 = .ok (.bipush (-6), 2) := by decide +kernel
theorem dX8_readsOrder_173 : decode cX8_readsOrder 173 = .ok (.if_icmp .eq 7, 3) := by decide +kernel
theorem dX8_readsOrder_176 : decode cX8_readsOrder 176 = .ok (.iconst 1, 1) := by decide +kernel
theorem dX8_readsOrder_177 : decode cX8_readsOrder 177 = .ok (.goto 4, 3) := by decide +kernel
theorem dX8_readsOrder_180 : decode cX8_readsOrder 180 = .ok (.iconst 0, 1) := by decide +kernel
theorem dX8_readsOrder_181 : decode cX8_readsOrder 181 = .ok (.ireturn, 1) := by decide +kernel
theorem dX8_readsOrder_182 : decode cX8_readsOrder 182 = .ok (.aload_n 0, 1) := by decide +kernel
theorem dX8_readsOrder_183 : decode cX8_readsOrder 183 = .ok (.dup, 1) := by decide +kernel
theorem dX8_readsOrder_184 : decode cX8_readsOrder 184 = .ok (.getfield 155, 3) := by decide +kernel
theorem dX8_readsOrder_187 : decode cX8_readsOrder 187 = .ok (.iconst 1, 1) := by decide +kernel
theorem dX8_readsOrder_188 : decode cX8_readsOrder 188 = .ok (.iadd, 1) := by decide +kernel
theorem dX8_readsOrder_189 : decode cX8_readsOrder 189 = .ok (.putfield 155, 3) := by decide +kernel
theorem dX8_readsOrder_192 : decode cX8_readsOrder 192 = .ok (.aload_n 0, 1) := by decide +kernel
theorem dX8_readsOrder_193 : decode cX8_readsOrder 193 = .ok (.invokevirtual 179, 3) := by decide +kernel
theorem dX8_readsOrder_196 : decode cX8_readsOrder 196 = .ok (.ireturn, 1) := by decide +kernel
theorem dX8_readsOrder_197 : decode cX8_readsOrder 197 = .ok (.aload_n 0, 1) := by decide +kernel
theorem dX8_readsOrder_198 : decode cX8_readsOrder 198 = .ok (.dup, 1) := by decide +kernel
theorem dX8_readsOrder_199 : decode cX8_readsOrder 199 = .ok (.getfield 155, 3) := by decide +kernel
theorem dX8_readsOrder_202 : decode cX8_readsOrder 202 = .ok (.iconst 1, 1) := by decide +kernel
theorem dX8_readsOrder_203 : decode cX8_readsOrder 203 = .ok (.iadd, 1) := by decide +kernel
theorem dX8_readsOrder_204 : decode cX8_readsOrder 204 = .ok (.putfield 155, 3) := by decide +kernel
theorem dX8_readsOrder_207 : decode cX8_readsOrder 207 = .ok (.iconst 1, 1) := by decide +kernel
theorem dX8_readsOrder_208 : decode cX8_readsOrder 208 = .ok (.ireturn, 1) := by decide +kernel
theorem dX8_readsOrder_209 : decode cX8_readsOrder 209 = .ok (.iconst 0, 1) := by decide +kernel
theorem dX8_readsOrder_210 : decode cX8_readsOrder 210 = .ok (.ireturn, 1) := by decide +kernel
set_option maxRecDepth 20000 in
theorem ggX8_findFault_X8_readsOrder : GoodIn wsX8_findFault wsX8_readsOrder := goodIn_r _ [7, 8, 9, 1, 10, 11, 12, 13, 6, 14, 2, 15, 16, 17, 18, 19, 20, 21, 22, 23, 24, 25, 26, 27, 28, 29, 30, 31, 32, 33, 34, 35, 36, 37, 38, 39, 40, 41, 42, 43, 44, 45, 46] (by decide +kernel) (by decide +kernel)
set_option maxRecDepth 20000 in
theorem gX8_findFault_X8_readsOrder : GoodIn wsX8_findFault (wsV RX8 183 RX8 yX8_readsOrder wsX8_readsOrder) := goodIn_app (goodIn_of _ (by decide +kernel)) ggX8_findFault_X8_readsOrder
set_option maxRecDepth 20000 in
theorem ggX8_findFault_X8_takes : GoodIn wsX8_findFault wsX8_takes := goodIn_r _ [34, 1, 11, 12, 13, 6, 14, 2, 15, 35, 36, 37, 38, 39, 40, 41, 42, 43, 44, 45, 46] (by decide +kernel) (by decide +kernel)
set_option maxRecDepth 20000 in
theorem gX8_findFault_X8_takes : GoodIn wsX8_findFault (wsV RX8 170 RX8 yX8_takes wsX8_takes) := goodIn_app (goodIn_of _ (by decide +kernel)) ggX8_findFault_X8_takes
theorem dX8_findFault_0 : decode cX8_findFault 0 = .ok (.aload_n 0, 1) := by decide +kernel
theorem dX8_findFault_1 : decode cX8_findFault 1 = .ok (.iconst 0, 1) := by decide +kernel
theorem dX8_findFault_2 : decode cX8_findFault 2 = .ok (.putfield 155, 3) := by decide +kernel
theorem dX8_findFault_5 : decode cX8_findFault 5 = .ok (.aload_n 0, 1) := by decide +kernel
theorem dX8_findFault_6 : decode cX8_findFault 6 = .ok (.invokevirtual 183, 3) := by decide +kernel
theorem dX8_findFault_9 : decode cX8_findFault 9 = .ok (.ifCond .eq 31, 3) := by decide +kernel
theorem dX8_findFault_12 : decode cX8_findFault 12 = .ok (.aload_n 0, 1) := by decide +kernel
theorem dX8_findFault_13 : decode cX8_findFault 13 = .ok (.getfield 155, 3) := by decide +kernel
theorem dX8_findFault_16 : decode cX8_findFault 16 = .ok (.aload_n 0, 1) := by decide +kernel
theorem dX8_findFault_17 : decode cX8_findFault 17 = .ok (.getfield 131, 3) := by decide +kernel
theorem dX8_findFault_20 : decode cX8_findFault 20 = .ok (.if_icmp .ne 6, 3) := by decide +kernel
theorem dX8_findFault_23 : decode cX8_findFault 23 = .ok (.bipush (-6), 2) := by decide +kernel
theorem dX8_findFault_25 : decode cX8_findFault 25 = .ok (.ireturn, 1) := by decide +kernel
theorem dX8_findFault_26 : decode cX8_findFault 26 = .ok (.aload_n 0, 1) := by decide +kernel
theorem dX8_findFault_27 : decode cX8_findFault 27 = .ok (.bipush 59, 2) := by decide +kernel
theorem dX8_findFault_29 : decode cX8_findFault 29 = .ok (.invokevirtual 170, 3) := by decide +kernel
theorem dX8_findFault_32 : decode cX8_findFault 32 = .ok (.ifCond .ne (-27), 3) := by decide +kernel
theorem dX8_findFault_35 : decode cX8_findFault 35 = .ok (.aload_n 0, 1) := by decide +kernel
theorem dX8_findFault_36 : decode cX8_findFault 36 = .ok (.getfield 155, 3) := by decide +kernel
theorem dX8_findFault_39 : decode cX8_findFault 39 = .ok (.ireturn, 1) := by decide +kernel
theorem dX8_findFault_40 : decode cX8_findFault 40 = .ok (.aload_n 0, 1) := by decide +kernel
theorem dX8_findFault_41 : decode cX8_findFault 41 = .ok (.getfield 155, 3) := by decide +kernel
theorem dX8_findFault_44 : decode cX8_findFault 44 = .ok (.ireturn, 1) := by decide +kernel
set_option maxRecDepth 20000 in
theorem ggX8_fault_X8_findFault : GoodIn wsX8_fault wsX8_findFault := goodIn_r _ [5, 6, 7, 8, 9, 10, 4, 11, 12, 13, 14, 15, 16, 17, 18, 19, 20, 21, 22, 23, 24, 25, 26, 27, 28, 29, 30, 31, 32, 33, 34, 35, 36, 37, 38, 39, 40, 41, 42, 43, 44, 45, 46, 47, 48, 49, 50] (by decide +kernel) (by decide +kernel)
set_option maxRecDepth 20000 in
theorem gX8_fault_X8_findFault : GoodIn wsX8_fault (wsV RX8 186 RX8 yX8_findFault wsX8_findFault) := goodIn_app (goodIn_of _ (by decide +kernel)) ggX8_fault_X8_findFault
theorem dX8_fault_0 : decode cX8_fault 0 = .ok (.aload_n 0, 1) := by decide +kernel
theorem dX8_fault_1 : decode cX8_fault 1 = .ok (.invokevirtual 186, 3) := by decide +kernel
theorem dX8_fault_4 : decode cX8_fault 4 = .ok (.ireturn, 1) := by decide +kernel
set_option maxRecDepth 20000 in
theorem ggX8_doesOrder_X8_doEnds : GoodIn wsX8_doesOrder wsX8_doEnds := goodIn_r _ [7, 8, 9, 6, 10, 11, 12, 13, 14, 15, 16, 17, 18, 19, 20, 21, 22, 99, 100, 101, 102, 103, 104, 105, 106, 107, 108, 109, 110] (by decide +kernel) (by decide +kernel)
set_option maxRecDepth 20000 in
theorem gX8_doesOrder_X8_doEnds : GoodIn wsX8_doesOrder (wsV RX8 112 RX8 yX8_doEnds wsX8_doEnds) := goodIn_app (goodIn_of _ (by decide +kernel)) ggX8_doesOrder_X8_doEnds
set_option maxRecDepth 20000 in
theorem ggX8_doesOrder_X8_doClap : GoodIn wsX8_doesOrder wsX8_doClap := goodIn_r _ [26, 18, 27, 28, 6, 29, 11, 12, 13, 30, 31, 32, 33, 34, 35, 36, 37, 19, 20, 21, 22, 38, 39, 40, 41, 42, 43, 44, 45, 99, 100, 101, 102, 103, 104, 105, 106, 107, 108, 109, 110] (by decide +kernel) (by decide +kernel)
set_option maxRecDepth 20000 in
theorem gX8_doesOrder_X8_doClap : GoodIn wsX8_doesOrder (wsV RX8 115 RX8 yX8_doClap wsX8_doClap) := goodIn_app (goodIn_of _ (by decide +kernel)) ggX8_doesOrder_X8_doClap
set_option maxRecDepth 20000 in
theorem ggX8_doesOrder_X8_doPass : GoodIn wsX8_doesOrder wsX8_doPass := goodIn_r _ [49, 18, 50, 11, 12, 6, 13, 51, 52, 53, 54, 55, 56, 57, 58, 59, 60, 61, 62, 42, 43, 44, 45, 63, 64, 65, 66, 99, 100, 101, 102, 103, 104, 105, 106, 107, 108, 109, 110] (by decide +kernel) (by decide +kernel)
set_option maxRecDepth 20000 in
theorem gX8_doesOrder_X8_doPass : GoodIn wsX8_doesOrder (wsV RX8 118 RX8 yX8_doPass wsX8_doPass) := goodIn_app (goodIn_of _ (by decide +kernel)) ggX8_doesOrder_X8_doPass
set_option maxRecDepth 20000 in
theorem ggX8_doesOrder_X8_doPlay : GoodIn wsX8_doesOrder wsX8_doPlay := goodIn_r _ [70, 18, 8, 9, 6, 10, 11, 12, 13, 71, 72, 73, 74, 63, 64, 65, 66, 14, 15, 16, 17, 19, 20, 21, 22, 75, 76, 77, 78, 99, 100, 101, 102, 103, 104, 105, 106, 107, 108, 109, 110] (by decide +kernel) (by decide +kernel)
set_option maxRecDepth 20000 in
theorem gX8_doesOrder_X8_doPlay : GoodIn wsX8_doesOrder (wsV RX8 121 RX8 yX8_doPlay wsX8_doPlay) := goodIn_app (goodIn_of _ (by decide +kernel)) ggX8_doesOrder_X8_doPlay
set_option maxRecDepth 20000 in
theorem ggX8_doesOrder_X8_doCall : GoodIn wsX8_doesOrder wsX8_doCall := goodIn_r _ [82, 18, 99, 100, 101, 102, 103, 104, 105, 106, 107, 108, 109, 110] (by decide +kernel) (by decide +kernel)
set_option maxRecDepth 20000 in
theorem gX8_doesOrder_X8_doCall : GoodIn wsX8_doesOrder (wsV RX8 124 RX8 yX8_doCall wsX8_doCall) := goodIn_app (goodIn_of _ (by decide +kernel)) ggX8_doesOrder_X8_doCall
set_option maxRecDepth 20000 in
theorem ggX8_doesOrder_X8_doNight : GoodIn wsX8_doesOrder wsX8_doNight := goodIn_r _ [86, 18, 42, 43, 44, 6, 45, 87, 88, 89, 90, 19, 20, 21, 22, 99, 100, 101, 102, 103, 104, 105, 106, 107, 108, 109, 110] (by decide +kernel) (by decide +kernel)
set_option maxRecDepth 20000 in
theorem gX8_doesOrder_X8_doNight : GoodIn wsX8_doesOrder (wsV RX8 128 RX8 yX8_doNight wsX8_doNight) := goodIn_app (goodIn_of _ (by decide +kernel)) ggX8_doesOrder_X8_doNight
set_option maxRecDepth 20000 in
theorem ggX8_doesOrder_X8_doPay : GoodIn wsX8_doesOrder wsX8_doPay := goodIn_r _ [94, 27, 28, 6, 29, 11, 12, 13, 30, 31, 32, 33, 18, 19, 20, 21, 22, 95, 96, 97, 98, 99, 100, 101, 102, 103, 104, 105, 106, 107, 108, 109, 110] (by decide +kernel) (by decide +kernel)
set_option maxRecDepth 20000 in
theorem gX8_doesOrder_X8_doPay : GoodIn wsX8_doesOrder (wsV RX8 109 RX8 yX8_doPay wsX8_doPay) := goodIn_app (goodIn_of _ (by decide +kernel)) ggX8_doesOrder_X8_doPay
theorem dX8_doesOrder_0 : decode cX8_doesOrder 0 = .ok (.aload_n 0, 1) := by decide +kernel
theorem dX8_doesOrder_1 : decode cX8_doesOrder 1 = .ok (.getfield 176, 3) := by decide +kernel
theorem dX8_doesOrder_4 : decode cX8_doesOrder 4 = .ok (.lookupswitch 106 #[(99, 69), (101, 60), (107, 96), (110, 101), (112, 87), (119, 78)], 60) := by decide +kernel
theorem dX8_doesOrder_64 : decode cX8_doesOrder 64 = .ok (.aload_n 0, 1) := by decide +kernel
theorem dX8_doesOrder_65 : decode cX8_doesOrder 65 = .ok (.aload_n 0, 1) := by decide +kernel
theorem dX8_doesOrder_66 : decode cX8_doesOrder 66 = .ok (.getfield 167, 3) := by decide +kernel
theorem dX8_doesOrder_69 : decode cX8_doesOrder 69 = .ok (.invokevirtual 112, 3) := by decide +kernel
theorem dX8_doesOrder_72 : decode cX8_doesOrder 72 = .ok (.ireturn, 1) := by decide +kernel
theorem dX8_doesOrder_73 : decode cX8_doesOrder 73 = .ok (.aload_n 0, 1) := by decide +kernel
theorem dX8_doesOrder_74 : decode cX8_doesOrder 74 = .ok (.aload_n 0, 1) := by decide +kernel
theorem dX8_doesOrder_75 : decode cX8_doesOrder 75 = .ok (.getfield 167, 3) := by decide +kernel
theorem dX8_doesOrder_78 : decode cX8_doesOrder 78 = .ok (.invokevirtual 115, 3) := by decide +kernel
theorem dX8_doesOrder_81 : decode cX8_doesOrder 81 = .ok (.ireturn, 1) := by decide +kernel
theorem dX8_doesOrder_82 : decode cX8_doesOrder 82 = .ok (.aload_n 0, 1) := by decide +kernel
theorem dX8_doesOrder_83 : decode cX8_doesOrder 83 = .ok (.aload_n 0, 1) := by decide +kernel
theorem dX8_doesOrder_84 : decode cX8_doesOrder 84 = .ok (.getfield 167, 3) := by decide +kernel
theorem dX8_doesOrder_87 : decode cX8_doesOrder 87 = .ok (.invokevirtual 118, 3) := by decide +kernel
theorem dX8_doesOrder_90 : decode cX8_doesOrder 90 = .ok (.ireturn, 1) := by decide +kernel
theorem dX8_doesOrder_91 : decode cX8_doesOrder 91 = .ok (.aload_n 0, 1) := by decide +kernel
theorem dX8_doesOrder_92 : decode cX8_doesOrder 92 = .ok (.aload_n 0, 1) := by decide +kernel
theorem dX8_doesOrder_93 : decode cX8_doesOrder 93 = .ok (.getfield 167, 3) := by decide +kernel
theorem dX8_doesOrder_96 : decode cX8_doesOrder 96 = .ok (.invokevirtual 121, 3) := by decide +kernel
theorem dX8_doesOrder_99 : decode cX8_doesOrder 99 = .ok (.ireturn, 1) := by decide +kernel
theorem dX8_doesOrder_100 : decode cX8_doesOrder 100 = .ok (.aload_n 0, 1) := by decide +kernel
theorem dX8_doesOrder_101 : decode cX8_doesOrder 101 = .ok (.invokevirtual 124, 3) := by decide +kernel
theorem dX8_doesOrder_104 : decode cX8_doesOrder 104 = .ok (.ireturn, 1) := by decide +kernel
theorem dX8_doesOrder_105 : decode cX8_doesOrder 105 = .ok (.aload_n 0, 1) := by decide +kernel
theorem dX8_doesOrder_106 : decode cX8_doesOrder 106 = .ok (.invokevirtual 128, 3) := by decide +kernel
theorem dX8_doesOrder_109 : decode cX8_doesOrder 109 = .ok (.ireturn, 1) := by decide +kernel
theorem dX8_doesOrder_110 : decode cX8_doesOrder 110 = .ok (.aload_n 0, 1) := by decide +kernel
theorem dX8_doesOrder_111 : decode cX8_doesOrder 111 = .ok (.aload_n 0, 1) := by decide +kernel
theorem dX8_doesOrder_112 : decode cX8_doesOrder 112 = .ok (.getfield 167, 3) := by decide +kernel
theorem dX8_doesOrder_115 : decode cX8_doesOrder 115 = .ok (.invokevirtual 109, 3) := by decide +kernel
theorem dX8_doesOrder_118 : decode cX8_doesOrder 118 = .ok (.ireturn, 1) := by decide +kernel
set_option maxRecDepth 20000 in
theorem ggX8_carryOut_X8_findFault : GoodIn wsX8_carryOut wsX8_findFault := goodIn_r _ [8, 1, 2, 9, 10, 11, 7, 12, 13, 3, 14, 15, 16, 17, 18, 19, 20, 21, 22, 23, 24, 25, 26, 27, 28, 29, 30, 31, 32, 33, 34, 35, 36, 37, 38, 146, 147, 148, 149, 150, 151, 152, 153, 154, 155, 156, 157] (by decide +kernel) (by decide +kernel)
set_option maxRecDepth 20000 in
theorem gX8_carryOut_X8_findFault : GoodIn wsX8_carryOut (wsV RX8 186 RX8 yX8_findFault wsX8_findFault) := goodIn_app (goodIn_of _ (by decide +kernel)) ggX8_carryOut_X8_findFault
set_option maxRecDepth 20000 in
theorem ggX8_carryOut_X8_putAside : GoodIn wsX8_carryOut wsX8_putAside := goodIn_r _ [42, 43, 44, 146, 147, 148, 149, 150, 151, 152, 153, 154, 155, 156, 157] (by decide +kernel) (by decide +kernel)
set_option maxRecDepth 20000 in
theorem gX8_carryOut_X8_putAside : GoodIn wsX8_carryOut (wsV RX8 47 RX8 yX8_putAside wsX8_putAside) := goodIn_app (goodIn_of _ (by decide +kernel)) ggX8_carryOut_X8_putAside
set_option maxRecDepth 20000 in
theorem ggX8_carryOut_X8_push : GoodIn wsX8_carryOut wsX8_push := goodIn_r _ [48, 49, 50, 43, 146, 147, 148, 149, 150, 151, 152, 153, 154, 155, 156, 157] (by decide +kernel) (by decide +kernel)
set_option maxRecDepth 20000 in
theorem gX8_carryOut_X8_push : GoodIn wsX8_carryOut (wsV RX8 40 RX8 yX8_push wsX8_push) := goodIn_app (goodIn_of _ (by decide +kernel)) ggX8_carryOut_X8_push
set_option maxRecDepth 20000 in
theorem ggX8_carryOut_X8_readsOrder : GoodIn wsX8_carryOut wsX8_readsOrder := goodIn_r _ [12, 13, 3, 1, 14, 15, 16, 17, 7, 18, 2, 19, 20, 21, 22, 23, 24, 25, 26, 27, 28, 29, 30, 31, 32, 33, 34, 35, 36, 37, 38, 146, 147, 148, 149, 150, 151, 152, 153, 154, 155, 156, 157] (by decide +kernel) (by decide +kernel)
set_option maxRecDepth 20000 in
theorem gX8_carryOut_X8_readsOrder : GoodIn wsX8_carryOut (wsV RX8 183 RX8 yX8_readsOrder wsX8_readsOrder) := goodIn_app (goodIn_of _ (by decide +kernel)) ggX8_carryOut_X8_readsOrder
set_option maxRecDepth 20000 in
theorem ggX8_carryOut_X8_doesOrder : GoodIn wsX8_carryOut wsX8_doesOrder := goodIn_r _ [54, 13, 14, 55, 56, 57, 7, 58, 59, 60, 61, 24, 25, 26, 62, 63, 64, 65, 44, 66, 67, 68, 69, 70, 71, 72, 73, 74, 75, 76, 77, 78, 79, 80, 81, 82, 83, 84, 85, 86, 87, 88, 89, 90, 91, 92, 93, 94, 95, 96, 97, 98, 99, 100, 101, 102, 103, 104, 105, 106, 107, 108, 109, 110, 111, 112, 113, 114, 115, 116, 117, 118, 119, 120, 121, 122, 123, 124, 125, 126, 127, 128, 129, 130, 131, 132, 133, 134, 135, 136, 137, 138, 139, 140, 141, 142, 143, 144, 145, 146, 147, 148, 149, 150, 151, 152, 153, 154, 155, 156, 157] (by decide +kernel) (by decide +kernel)
set_option maxRecDepth 20000 in
theorem gX8_carryOut_X8_doesOrder : GoodIn wsX8_carryOut (wsV RX8 189 RX8 yX8_doesOrder wsX8_doesOrder) := goodIn_app (goodIn_of _ (by decide +kernel)) ggX8_carryOut_X8_doesOrder
theorem dX8_carryOut_0 : decode cX8_carryOut 0 = .ok (.aload_n 0, 1) := by decide +kernel
theorem dX8_carryOut_1 : decode cX8_carryOut 1 = .ok (.invokevirtual 186, 3) := by decide +kernel
theorem dX8_carryOut_4 : decode cX8_carryOut 4 = .ok (.bipush (-6), 2) := by decide +kernel
theorem dX8_carryOut_6 : decode cX8_carryOut 6 = .ok (.if_icmp .eq 6, 3) := by decide +kernel
theorem dX8_carryOut_9 : decode cX8_carryOut 9 = .ok (.bipush (-3), 2) := by decide +kernel
theorem dX8_carryOut_11 : decode cX8_carryOut 11 = .ok (.ireturn, 1) := by decide +kernel
theorem dX8_carryOut_12 : decode cX8_carryOut 12 = .ok (.aload_n 0, 1) := by decide +kernel
theorem dX8_carryOut_13 : decode cX8_carryOut 13 = .ok (.invokevirtual 47, 3) := by decide +kernel
theorem dX8_carryOut_16 : decode cX8_carryOut 16 = .ok (.aload_n 0, 1) := by decide +kernel
theorem dX8_carryOut_17 : decode cX8_carryOut 17 = .ok (.invokevirtual 40, 3) := by decide +kernel
theorem dX8_carryOut_20 : decode cX8_carryOut 20 = .ok (.aload_n 0, 1) := by decide +kernel
theorem dX8_carryOut_21 : decode cX8_carryOut 21 = .ok (.iconst 0, 1) := by decide +kernel
theorem dX8_carryOut_22 : decode cX8_carryOut 22 = .ok (.putfield 155, 3) := by decide +kernel
theorem dX8_carryOut_25 : decode cX8_carryOut 25 = .ok (.iconst 0, 1) := by decide +kernel
theorem dX8_carryOut_26 : decode cX8_carryOut 26 = .ok (.istore_n 1, 1) := by decide +kernel
theorem dX8_carryOut_27 : decode cX8_carryOut 27 = .ok (.iconst 1, 1) := by decide +kernel
theorem dX8_carryOut_28 : decode cX8_carryOut 28 = .ok (.istore_n 2, 1) := by decide +kernel
theorem dX8_carryOut_29 : decode cX8_carryOut 29 = .ok (.iload_n 2, 1) := by decide +kernel
theorem dX8_carryOut_30 : decode cX8_carryOut 30 = .ok (.ifCond .eq 77, 3) := by decide +kernel
theorem dX8_carryOut_33 : decode cX8_carryOut 33 = .ok (.aload_n 0, 1) := by decide +kernel
theorem dX8_carryOut_34 : decode cX8_carryOut 34 = .ok (.getfield 155, 3) := by decide +kernel
theorem dX8_carryOut_37 : decode cX8_carryOut 37 = .ok (.aload_n 0, 1) := by decide +kernel
theorem dX8_carryOut_38 : decode cX8_carryOut 38 = .ok (.getfield 131, 3) := by decide +kernel
theorem dX8_carryOut_41 : decode cX8_carryOut 41 = .ok (.if_icmp .ge 66, 3) := by decide +kernel
theorem dX8_carryOut_44 : decode cX8_carryOut 44 = .ok (.aload_n 0, 1) := by decide +kernel
theorem dX8_carryOut_45 : decode cX8_carryOut 45 = .ok (.invokevirtual 183, 3) := by decide +kernel
theorem dX8_carryOut_48 : decode cX8_carryOut 48 = .ok (.istore_n 2, 1) := by decide +kernel
theorem dX8_carryOut_49 : decode cX8_carryOut 49 = .ok (.iconst 0, 1) := by decide +kernel
theorem dX8_carryOut_50 : decode cX8_carryOut 50 = .ok (.istore_n 3, 1) := by decide +kernel
theorem dX8_carryOut_51 : decode cX8_carryOut 51 = .ok (.iload_n 3, 1) := by decide +kernel
theorem dX8_carryOut_52 : decode cX8_carryOut 52 = .ok (.aload_n 0, 1) := by decide +kernel
theorem dX8_carryOut_53 : decode cX8_carryOut 53 = .ok (.getfield 173, 3) := by decide +kernel
theorem dX8_carryOut_56 : decode cX8_carryOut 56 = .ok (.if_icmp .ge 38, 3) := by decide +kernel
theorem dX8_carryOut_59 : decode cX8_carryOut 59 = .ok (.iload_n 2, 1) := by decide +kernel
theorem dX8_carryOut_60 : decode cX8_carryOut 60 = .ok (.ifCond .eq 34, 3) := by decide +kernel
theorem dX8_carryOut_63 : decode cX8_carryOut 63 = .ok (.aload_n 0, 1) := by decide +kernel
theorem dX8_carryOut_64 : decode cX8_carryOut 64 = .ok (.invokevirtual 189, 3) := by decide +kernel
theorem dX8_carryOut_67 : decode cX8_carryOut 67 = .ok (.ifCond .lt 7, 3) := by decide +kernel
theorem dX8_carryOut_70 : decode cX8_carryOut 70 = .ok (.iconst 1, 1) := by decide +kernel
theorem dX8_carryOut_71 : decode cX8_carryOut 71 = .ok (.goto 4, 3) := by decide +kernel
theorem dX8_carryOut_74 : decode cX8_carryOut 74 = .ok (.iconst 0, 1) := by decide +kernel
theorem dX8_carryOut_75 : decode cX8_carryOut 75 = .ok (.istore_n 2, 1) := by decide +kernel
theorem dX8_carryOut_76 : decode cX8_carryOut 76 = .ok (.iload_n 1, 1) := by decide +kernel
theorem dX8_carryOut_77 : decode cX8_carryOut 77 = .ok (.iload_n 2, 1) := by decide +kernel
theorem dX8_carryOut_78 : decode cX8_carryOut 78 = .ok (.ifCond .eq 7, 3) := by decide +kernel
theorem dX8_carryOut_81 : decode cX8_carryOut 81 = .ok (.iconst 1, 1) := by decide +kernel
theorem dX8_carryOut_82 : decode cX8_carryOut 82 = .ok (.goto 4, 3) := by decide +kernel
theorem dX8_carryOut_85 : decode cX8_carryOut 85 = .ok (.iconst 0, 1) := by decide +kernel
theorem dX8_carryOut_86 : decode cX8_carryOut 86 = .ok (.iadd, 1) := by decide +kernel
theorem dX8_carryOut_87 : decode cX8_carryOut 87 = .ok (.istore_n 1, 1) := by decide +kernel
theorem dX8_carryOut_88 : decode cX8_carryOut 88 = .ok (.iinc 3 1, 3) := by decide +kernel
theorem dX8_carryOut_91 : decode cX8_carryOut 91 = .ok (.goto (-40), 3) := by decide +kernel
theorem dX8_carryOut_94 : decode cX8_carryOut 94 = .ok (.aload_n 0, 1) := by decide +kernel
theorem dX8_carryOut_95 : decode cX8_carryOut 95 = .ok (.dup, 1) := by decide +kernel
theorem dX8_carryOut_96 : decode cX8_carryOut 96 = .ok (.getfield 155, 3) := by decide +kernel
theorem dX8_carryOut_99 : decode cX8_carryOut 99 = .ok (.iconst 1, 1) := by decide +kernel
theorem dX8_carryOut_100 : decode cX8_carryOut 100 = .ok (.iadd, 1) := by decide +kernel
theorem dX8_carryOut_101 : decode cX8_carryOut 101 = .ok (.putfield 155, 3) := by decide +kernel
theorem dX8_carryOut_104 : decode cX8_carryOut 104 = .ok (.goto (-75), 3) := by decide +kernel
theorem dX8_carryOut_107 : decode cX8_carryOut 107 = .ok (.aload_n 0, 1) := by decide +kernel
theorem dX8_carryOut_108 : decode cX8_carryOut 108 = .ok (.iconst 0, 1) := by decide +kernel
theorem dX8_carryOut_109 : decode cX8_carryOut 109 = .ok (.putfield 131, 3) := by decide +kernel
theorem dX8_carryOut_112 : decode cX8_carryOut 112 = .ok (.iload_n 1, 1) := by decide +kernel
theorem dX8_carryOut_113 : decode cX8_carryOut 113 = .ok (.ireturn, 1) := by decide +kernel
theorem dJ9_max_7cf53_0 : decode cJ9_max_7cf53 0 = .ok (.iload_n 0, 1) := by decide +kernel
theorem dJ9_max_7cf53_1 : decode cJ9_max_7cf53 1 = .ok (.iload_n 1, 1) := by decide +kernel
theorem dJ9_max_7cf53_2 : decode cJ9_max_7cf53 2 = .ok (.if_icmp .lt 7, 3) := by decide +kernel
theorem dJ9_max_7cf53_5 : decode cJ9_max_7cf53 5 = .ok (.iload_n 0, 1) := by decide +kernel
theorem dJ9_max_7cf53_6 : decode cJ9_max_7cf53 6 = .ok (.goto 4, 3) := by decide +kernel
theorem dJ9_max_7cf53_9 : decode cJ9_max_7cf53 9 = .ok (.iload_n 1, 1) := by decide +kernel
theorem dJ9_max_7cf53_10 : decode cJ9_max_7cf53 10 = .ok (.ireturn, 1) := by decide +kernel
theorem dJ9_min_7cf53_0 : decode cJ9_min_7cf53 0 = .ok (.iload_n 0, 1) := by decide +kernel
theorem dJ9_min_7cf53_1 : decode cJ9_min_7cf53 1 = .ok (.iload_n 1, 1) := by decide +kernel
theorem dJ9_min_7cf53_2 : decode cJ9_min_7cf53 2 = .ok (.if_icmp .gt 7, 3) := by decide +kernel
theorem dJ9_min_7cf53_5 : decode cJ9_min_7cf53 5 = .ok (.iload_n 0, 1) := by decide +kernel
theorem dJ9_min_7cf53_6 : decode cJ9_min_7cf53 6 = .ok (.goto 4, 3) := by decide +kernel
theorem dJ9_min_7cf53_9 : decode cJ9_min_7cf53 9 = .ok (.iload_n 1, 1) := by decide +kernel
theorem dJ9_min_7cf53_10 : decode cJ9_min_7cf53 10 = .ok (.ireturn, 1) := by decide +kernel
set_option maxRecDepth 20000 in
theorem ggL_law_X7_init : GoodIn wsL_law wsX7_init := goodIn_r _ [9, 10, 11, 12, 13, 14, 15, 16, 17, 18, 19, 20, 21, 22, 23, 24, 25, 26, 27, 28, 29, 30, 31, 32, 33, 34, 35, 36, 37, 38, 39, 40, 41, 42, 43, 44, 45, 46, 47, 48, 49, 50, 51, 52, 53, 54, 55, 56, 57, 58, 59, 60, 61, 62, 63, 64, 65, 66, 67, 68, 69, 70, 71, 72, 73, 74, 75, 76, 77, 78, 79, 80, 81, 82, 83, 84, 85, 86, 87, 88, 89, 90, 91, 92, 93, 94, 95, 96, 97, 98, 99, 100, 101, 102, 103, 846, 847, 848, 849, 850, 851, 852, 853, 854, 855, 856, 829, 830, 831, 832, 833, 857, 858, 859, 860, 861, 862, 863, 864, 865, 866, 867, 868, 869, 870, 871, 872, 873, 874, 875, 876, 877, 878, 879, 880, 881] (by decide +kernel) (by decide +kernel)
set_option maxRecDepth 20000 in
theorem gL_law_X7_init : GoodIn wsL_law (wsX7_init) := ggL_law_X7_init
set_option maxRecDepth 20000 in
theorem ggL_law_X8_init : GoodIn wsL_law wsX8_init := goodIn_r _ [106, 107, 11, 12, 57, 108, 109, 110, 111, 112, 113, 114, 115, 116, 5, 117, 834, 835, 836, 837, 838, 839, 840, 841, 842, 843, 844, 845] (by decide +kernel) (by decide +kernel)
set_option maxRecDepth 20000 in
theorem gL_law_X8_init : GoodIn wsL_law (wsX8_init) := ggL_law_X8_init
set_option maxRecDepth 20000 in
theorem ggL_law_X7_set : GoodIn wsL_law wsX7_set := goodIn_r _ [121, 20, 16, 122, 123, 124, 19, 125, 126, 127, 128, 129, 130, 93, 131, 132, 133, 15, 134, 37, 41, 45, 46, 47, 135, 136, 137, 48, 138, 139, 140, 141, 142, 36, 143, 58, 144, 145, 55, 146, 147, 148, 149, 150, 151, 152, 153, 40, 154, 64, 65, 66, 67, 68, 155, 156, 157, 158, 159, 160, 161, 44, 162, 78, 79, 80, 81, 82, 163, 164, 165, 166, 167, 168, 169, 170, 171, 172, 84, 85, 86, 87, 173, 174, 175, 176, 177, 178, 829, 830, 831, 832, 833, 857, 858, 859, 846, 847, 848, 849, 850, 851, 852, 853, 854, 855, 856, 867, 868, 869, 870, 871, 872, 873, 874, 875, 876, 877, 878, 879, 880, 881] (by decide +kernel) (by decide +kernel)
set_option maxRecDepth 20000 in
theorem gL_law_X7_set : GoodIn wsL_law (wsV RL 13 RX7 yX7_set wsX7_set) := goodIn_app (goodIn_of _ (by decide +kernel)) ggL_law_X7_set
set_option maxRecDepth 20000 in
theorem ggL_law_X8_set : GoodIn wsL_law wsX8_set := goodIn_r _ [182, 108, 183, 184, 5, 185, 186, 187, 188, 189, 190, 191, 192, 193, 194, 195, 109, 196, 197, 198, 199, 200, 201, 202, 203, 204, 110, 834, 835, 836, 837, 838, 839, 840, 841, 842, 843, 844, 845] (by decide +kernel) (by decide +kernel)
set_option maxRecDepth 20000 in
theorem gL_law_X8_set : GoodIn wsL_law (wsV RL 17 RX8 yX8_set wsX8_set) := goodIn_app (goodIn_of _ (by decide +kernel)) ggL_law_X8_set
set_option maxRecDepth 20000 in
theorem ggL_law_X7_loud : GoodIn wsL_law wsX7_loud := goodIn_r _ [208, 20, 16, 122, 123, 124, 19, 125, 126, 127, 128, 129, 130, 93, 131, 132, 133, 15, 134, 37, 41, 45, 46, 47, 135, 136, 137, 48, 138, 139, 140, 141, 142, 36, 143, 58, 144, 145, 55, 146, 147, 148, 149, 150, 151, 152, 153, 40, 154, 64, 65, 66, 67, 68, 155, 156, 157, 158, 159, 160, 161, 44, 162, 78, 79, 80, 81, 82, 163, 164, 209, 210, 211, 212, 213, 2, 214, 169, 170, 171, 172, 84, 85, 86, 87, 173, 174, 175, 176, 177, 178, 829, 830, 831, 832, 833, 857, 858, 859, 846, 847, 848, 849, 850, 851, 852, 853, 854, 855, 856, 867, 868, 869, 870, 871, 872, 873, 874, 875, 876, 877, 878, 879, 880, 881] (by decide +kernel) (by decide +kernel)
set_option maxRecDepth 20000 in
theorem gL_law_X7_loud : GoodIn wsL_law (wsV RL 18 RX7 yX7_loud wsX7_loud) := goodIn_app (goodIn_of _ (by decide +kernel)) ggL_law_X7_loud
set_option maxRecDepth 20000 in
theorem ggL_law_X8_loud : GoodIn wsL_law wsX8_loud := goodIn_r _ [218, 219, 220, 5, 221, 183, 184, 185, 192, 193, 194, 195, 109, 108, 222, 223, 224, 225, 114, 115, 116, 117, 196, 197, 198, 199, 200, 201, 202, 203, 204, 110, 834, 835, 836, 837, 838, 839, 840, 841, 842, 843, 844, 845] (by decide +kernel) (by decide +kernel)
set_option maxRecDepth 20000 in
theorem gL_law_X8_loud : GoodIn wsL_law (wsV RL 21 RX8 yX8_loud wsX8_loud) := goodIn_app (goodIn_of _ (by decide +kernel)) ggL_law_X8_loud
set_option maxRecDepth 20000 in
theorem ggL_law_X7_pay : GoodIn wsL_law wsX7_pay := goodIn_r _ [229, 20, 16, 122, 123, 124, 19, 125, 126, 127, 128, 129, 130, 93, 131, 132, 133, 15, 134, 37, 41, 45, 46, 47, 135, 136, 137, 48, 138, 139, 140, 141, 142, 36, 143, 58, 144, 145, 55, 146, 147, 148, 149, 150, 151, 152, 153, 40, 154, 64, 65, 66, 67, 68, 155, 156, 157, 158, 159, 160, 161, 44, 162, 78, 79, 80, 81, 82, 163, 164, 230, 231, 232, 233, 213, 2, 214, 173, 174, 175, 176, 177, 178, 829, 830, 831, 832, 833, 857, 858, 859, 846, 847, 848, 849, 850, 851, 852, 853, 854, 855, 856, 867, 868, 869, 870, 871, 872, 873, 874, 875, 876, 877, 878, 879, 880, 881] (by decide +kernel) (by decide +kernel)
set_option maxRecDepth 20000 in
theorem gL_law_X7_pay : GoodIn wsL_law (wsV RL 22 RX7 yX7_pay wsX7_pay) := goodIn_app (goodIn_of _ (by decide +kernel)) ggL_law_X7_pay
set_option maxRecDepth 20000 in
theorem ggL_law_X8_pay : GoodIn wsL_law wsX8_pay := goodIn_r _ [237, 192, 193, 194, 5, 195, 109, 108, 238, 239, 240, 241, 219, 220, 221, 183, 184, 185, 222, 223, 224, 225, 114, 115, 116, 117, 242, 243, 244, 245, 196, 197, 198, 199, 200, 201, 202, 203, 204, 110, 834, 835, 836, 837, 838, 839, 840, 841, 842, 843, 844, 845] (by decide +kernel) (by decide +kernel)
set_option maxRecDepth 20000 in
theorem gL_law_X8_pay : GoodIn wsL_law (wsV RL 26 RX8 yX8_pay wsX8_pay) := goodIn_app (goodIn_of _ (by decide +kernel)) ggL_law_X8_pay
set_option maxRecDepth 20000 in
theorem ggL_law_X7_ends : GoodIn wsL_law wsX7_ends := goodIn_r _ [249, 20, 16, 122, 123, 124, 19, 125, 126, 127, 128, 129, 130, 93, 131, 132, 133, 15, 134, 37, 41, 45, 46, 47, 135, 136, 137, 48, 138, 139, 140, 141, 142, 36, 143, 58, 144, 145, 55, 146, 147, 148, 149, 150, 151, 152, 153, 40, 154, 64, 65, 66, 67, 68, 155, 156, 157, 158, 159, 160, 161, 44, 162, 78, 79, 80, 81, 82, 163, 164, 250, 251, 252, 253, 254, 2, 255, 256, 257, 258, 259, 260, 261, 262, 263, 264, 265, 266, 267, 173, 174, 175, 176, 177, 178, 829, 830, 831, 832, 833, 857, 858, 859, 846, 847, 848, 849, 850, 851, 852, 853, 854, 855, 856, 867, 868, 869, 870, 871, 872, 873, 874, 875, 876, 877, 878, 879, 880, 881] (by decide +kernel) (by decide +kernel)
set_option maxRecDepth 20000 in
theorem gL_law_X7_ends : GoodIn wsL_law (wsV RL 27 RX7 yX7_ends wsX7_ends) := goodIn_app (goodIn_of _ (by decide +kernel)) ggL_law_X7_ends
set_option maxRecDepth 20000 in
theorem ggL_law_X8_ends : GoodIn wsL_law wsX8_ends := goodIn_r _ [271, 192, 193, 194, 5, 195, 109, 108, 272, 273, 274, 275, 276, 277, 278, 183, 184, 185, 279, 280, 281, 282, 114, 115, 116, 117, 196, 197, 198, 199, 200, 201, 202, 203, 204, 110, 834, 835, 836, 837, 838, 839, 840, 841, 842, 843, 844, 845] (by decide +kernel) (by decide +kernel)
set_option maxRecDepth 20000 in
theorem gL_law_X8_ends : GoodIn wsL_law (wsV RL 30 RX8 yX8_ends wsX8_ends) := goodIn_app (goodIn_of _ (by decide +kernel)) ggL_law_X8_ends
set_option maxRecDepth 20000 in
theorem ggL_law_X7_clap : GoodIn wsL_law wsX7_clap := goodIn_r _ [286, 20, 16, 122, 123, 124, 19, 125, 126, 127, 128, 129, 130, 93, 131, 132, 133, 15, 134, 37, 41, 45, 46, 47, 135, 136, 137, 48, 138, 139, 140, 141, 142, 36, 143, 58, 144, 145, 55, 146, 147, 148, 149, 150, 151, 152, 153, 40, 154, 64, 65, 66, 67, 68, 155, 156, 157, 158, 159, 160, 161, 44, 162, 78, 79, 80, 81, 82, 163, 164, 287, 288, 289, 290, 291, 213, 2, 214, 169, 170, 171, 172, 292, 293, 294, 295, 296, 297, 298, 299, 300, 261, 262, 263, 301, 302, 85, 86, 87, 260, 303, 304, 305, 306, 307, 308, 309, 310, 311, 312, 173, 174, 175, 176, 177, 178, 829, 830, 831, 832, 833, 857, 858, 859, 846, 847, 848, 849, 850, 851, 852, 853, 854, 855, 856, 867, 868, 869, 870, 871, 872, 873, 874, 875, 876, 877, 878, 879, 880, 881] (by decide +kernel) (by decide +kernel)
set_option maxRecDepth 20000 in
theorem gL_law_X7_clap : GoodIn wsL_law (wsV RL 31 RX7 yX7_clap wsX7_clap) := goodIn_app (goodIn_of _ (by decide +kernel)) ggL_law_X7_clap
set_option maxRecDepth 20000 in
theorem ggL_law_X8_clap : GoodIn wsL_law wsX8_clap := goodIn_r _ [316, 192, 193, 194, 5, 195, 109, 108, 317, 318, 319, 320, 219, 220, 221, 183, 184, 185, 222, 223, 224, 225, 321, 322, 323, 324, 114, 115, 116, 117, 325, 326, 327, 328, 329, 330, 331, 332, 196, 197, 198, 199, 200, 201, 202, 203, 204, 110, 834, 835, 836, 837, 838, 839, 840, 841, 842, 843, 844, 845] (by decide +kernel) (by decide +kernel)
set_option maxRecDepth 20000 in
theorem gL_law_X8_clap : GoodIn wsL_law (wsV RL 34 RX8 yX8_clap wsX8_clap) := goodIn_app (goodIn_of _ (by decide +kernel)) ggL_law_X8_clap
set_option maxRecDepth 20000 in
theorem ggL_law_X7_pass : GoodIn wsL_law wsX7_pass := goodIn_r _ [336, 20, 16, 122, 123, 124, 19, 125, 126, 127, 128, 129, 130, 93, 131, 132, 133, 15, 134, 37, 41, 45, 46, 47, 135, 136, 137, 48, 138, 139, 140, 141, 142, 36, 143, 58, 144, 145, 55, 146, 147, 148, 149, 150, 151, 152, 153, 40, 154, 64, 65, 66, 67, 68, 155, 156, 157, 158, 159, 160, 161, 44, 162, 78, 79, 80, 81, 82, 163, 164, 337, 338, 339, 340, 341, 169, 170, 171, 172, 342, 2, 343, 344, 54, 56, 345, 346, 347, 348, 349, 311, 261, 262, 263, 312, 85, 86, 87, 260, 173, 174, 175, 176, 177, 178, 829, 830, 831, 832, 833, 857, 858, 859, 846, 847, 848, 849, 850, 851, 852, 853, 854, 855, 856, 867, 868, 869, 870, 871, 872, 873, 874, 875, 876, 877, 878, 879, 880, 881] (by decide +kernel) (by decide +kernel)
set_option maxRecDepth 20000 in
theorem gL_law_X7_pass : GoodIn wsL_law (wsV RL 35 RX7 yX7_pass wsX7_pass) := goodIn_app (goodIn_of _ (by decide +kernel)) ggL_law_X7_pass
set_option maxRecDepth 20000 in
theorem ggL_law_X8_pass : GoodIn wsL_law wsX8_pass := goodIn_r _ [353, 192, 193, 194, 5, 195, 109, 108, 354, 355, 356, 357, 358, 183, 184, 185, 359, 360, 361, 362, 363, 364, 365, 366, 367, 368, 369, 370, 329, 330, 331, 332, 371, 372, 373, 374, 196, 197, 198, 199, 200, 201, 202, 203, 204, 110, 834, 835, 836, 837, 838, 839, 840, 841, 842, 843, 844, 845] (by decide +kernel) (by decide +kernel)
set_option maxRecDepth 20000 in
theorem gL_law_X8_pass : GoodIn wsL_law (wsV RL 38 RX8 yX8_pass wsX8_pass) := goodIn_app (goodIn_of _ (by decide +kernel)) ggL_law_X8_pass
set_option maxRecDepth 20000 in
theorem ggL_law_X7_play : GoodIn wsL_law wsX7_play := goodIn_r _ [378, 20, 16, 122, 123, 124, 19, 125, 126, 127, 128, 129, 130, 93, 131, 132, 133, 15, 134, 37, 41, 45, 46, 47, 135, 136, 137, 48, 138, 139, 140, 141, 142, 36, 143, 58, 144, 145, 55, 146, 147, 148, 149, 150, 151, 152, 153, 40, 154, 64, 65, 66, 67, 68, 155, 156, 157, 158, 159, 160, 161, 44, 162, 78, 79, 80, 81, 82, 163, 164, 379, 380, 381, 382, 254, 2, 255, 383, 384, 385, 386, 387, 388, 389, 390, 349, 170, 171, 172, 312, 85, 86, 87, 311, 261, 262, 263, 260, 256, 257, 258, 259, 264, 265, 266, 267, 391, 392, 393, 394, 173, 174, 175, 176, 177, 178, 829, 830, 831, 832, 833, 857, 858, 859, 846, 847, 848, 849, 850, 851, 852, 853, 854, 855, 856, 867, 868, 869, 870, 871, 872, 873, 874, 875, 876, 877, 878, 879, 880, 881] (by decide +kernel) (by decide +kernel)
set_option maxRecDepth 20000 in
theorem gL_law_X7_play : GoodIn wsL_law (wsV RL 39 RX7 yX7_play wsX7_play) := goodIn_app (goodIn_of _ (by decide +kernel)) ggL_law_X7_play
set_option maxRecDepth 20000 in
theorem ggL_law_X8_play : GoodIn wsL_law wsX8_play := goodIn_r _ [398, 192, 193, 194, 5, 195, 109, 108, 399, 400, 401, 402, 276, 277, 278, 183, 184, 185, 403, 404, 405, 406, 371, 372, 373, 374, 279, 280, 281, 282, 114, 115, 116, 117, 407, 408, 409, 410, 196, 197, 198, 199, 200, 201, 202, 203, 204, 110, 834, 835, 836, 837, 838, 839, 840, 841, 842, 843, 844, 845] (by decide +kernel) (by decide +kernel)
set_option maxRecDepth 20000 in
theorem gL_law_X8_play : GoodIn wsL_law (wsV RL 42 RX8 yX8_play wsX8_play) := goodIn_app (goodIn_of _ (by decide +kernel)) ggL_law_X8_play
set_option maxRecDepth 20000 in
theorem ggL_law_X7_call : GoodIn wsL_law wsX7_call := goodIn_r _ [414, 20, 16, 122, 123, 124, 19, 125, 126, 127, 128, 129, 130, 93, 131, 132, 133, 15, 134, 37, 41, 45, 46, 47, 135, 136, 137, 48, 138, 139, 140, 141, 142, 36, 143, 58, 144, 145, 55, 146, 147, 148, 149, 150, 151, 152, 153, 40, 154, 64, 65, 66, 67, 68, 155, 156, 157, 158, 159, 160, 161, 44, 162, 78, 79, 80, 81, 82, 163, 164, 415, 416, 417, 418, 169, 170, 171, 172, 260, 261, 262, 263, 173, 174, 175, 176, 177, 178, 829, 830, 831, 832, 833, 857, 858, 859, 846, 847, 848, 849, 850, 851, 852, 853, 854, 855, 856, 867, 868, 869, 870, 871, 872, 873, 874, 875, 876, 877, 878, 879, 880, 881] (by decide +kernel) (by decide +kernel)
set_option maxRecDepth 20000 in
theorem gL_law_X7_call : GoodIn wsL_law (wsV RL 43 RX7 yX7_call wsX7_call) := goodIn_app (goodIn_of _ (by decide +kernel)) ggL_law_X7_call
set_option maxRecDepth 20000 in
theorem ggL_law_X8_call : GoodIn wsL_law wsX8_call := goodIn_r _ [422, 192, 193, 194, 5, 195, 109, 108, 423, 424, 425, 426, 196, 197, 198, 199, 200, 201, 202, 203, 204, 110, 834, 835, 836, 837, 838, 839, 840, 841, 842, 843, 844, 845] (by decide +kernel) (by decide +kernel)
set_option maxRecDepth 20000 in
theorem gL_law_X8_call : GoodIn wsL_law (wsV RL 47 RX8 yX8_call wsX8_call) := goodIn_app (goodIn_of _ (by decide +kernel)) ggL_law_X8_call
set_option maxRecDepth 20000 in
theorem ggL_law_X7_night : GoodIn wsL_law wsX7_night := goodIn_r _ [430, 20, 16, 122, 123, 124, 19, 125, 126, 127, 128, 129, 130, 93, 131, 132, 133, 15, 134, 37, 41, 45, 46, 47, 135, 136, 137, 48, 138, 139, 140, 141, 142, 36, 143, 58, 144, 145, 55, 146, 147, 148, 149, 150, 151, 152, 153, 40, 154, 64, 65, 66, 67, 68, 155, 156, 157, 158, 159, 160, 161, 44, 162, 78, 79, 80, 81, 82, 163, 164, 431, 432, 433, 434, 345, 346, 347, 348, 349, 170, 171, 172, 311, 261, 262, 263, 312, 85, 86, 87, 260, 435, 436, 437, 169, 84, 438, 71, 72, 73, 439, 440, 441, 442, 70, 173, 174, 175, 176, 177, 178, 829, 830, 831, 832, 833, 857, 858, 859, 846, 847, 848, 849, 850, 851, 852, 853, 854, 855, 856, 867, 868, 869, 870, 871, 872, 873, 874, 875, 876, 877, 878, 879, 880, 881] (by decide +kernel) (by decide +kernel)
set_option maxRecDepth 20000 in
theorem gL_law_X7_night : GoodIn wsL_law (wsV RL 48 RX7 yX7_night wsX7_night) := goodIn_app (goodIn_of _ (by decide +kernel)) ggL_law_X7_night
set_option maxRecDepth 20000 in
theorem ggL_law_X8_night : GoodIn wsL_law wsX8_night := goodIn_r _ [446, 192, 193, 194, 5, 195, 109, 108, 447, 448, 449, 450, 329, 330, 331, 332, 451, 452, 453, 454, 114, 115, 116, 117, 196, 197, 198, 199, 200, 201, 202, 203, 204, 110, 834, 835, 836, 837, 838, 839, 840, 841, 842, 843, 844, 845] (by decide +kernel) (by decide +kernel)
set_option maxRecDepth 20000 in
theorem gL_law_X8_night : GoodIn wsL_law (wsV RL 51 RX8 yX8_night wsX8_night) := goodIn_app (goodIn_of _ (by decide +kernel)) ggL_law_X8_night
set_option maxRecDepth 20000 in
theorem ggL_law_X7_write : GoodIn wsL_law wsX7_write := goodIn_r _ [458, 25, 16, 459, 460, 461, 24, 462, 463, 464, 465, 466, 15, 467, 46, 45, 169, 170, 171, 36, 172, 58, 468, 469, 470, 471, 472, 473, 474, 475, 476, 98, 391, 392, 393, 44, 394, 163, 78, 349, 477, 478, 479, 480, 829, 830, 831, 832, 833, 860, 861, 846, 847, 848, 849, 850, 851, 852, 853, 854, 855, 856, 867, 876, 877, 878, 879, 880, 881] (by decide +kernel) (by decide +kernel)
set_option maxRecDepth 20000 in
theorem gL_law_X7_write : GoodIn wsL_law (wsV RL 52 RX7 yX7_write wsX7_write) := goodIn_app (goodIn_of _ (by decide +kernel)) ggL_law_X7_write
set_option maxRecDepth 20000 in
theorem ggL_law_X8_write : GoodIn wsL_law wsX8_write := goodIn_r _ [484, 485, 108, 486, 487, 488, 5, 489, 113, 490, 491, 492, 493, 407, 408, 409, 410, 834, 835, 836, 837, 838, 839, 840, 841, 842, 843, 844, 845] (by decide +kernel) (by decide +kernel)
set_option maxRecDepth 20000 in
theorem gL_law_X8_write : GoodIn wsL_law (wsV RL 55 RX8 yX8_write wsX8_write) := goodIn_app (goodIn_of _ (by decide +kernel)) ggL_law_X8_write
set_option maxRecDepth 20000 in
theorem ggL_law_X7_of : GoodIn wsL_law wsX7_of := goodIn_r _ [497, 16, 498, 499, 500, 15, 501, 41, 37, 213, 2, 214, 169, 170, 171, 36, 172, 58, 502, 297, 298, 40, 299, 157, 829, 830, 831, 832, 833, 846, 847, 848, 849, 850, 851, 852, 853, 854, 855, 856, 868, 869, 870, 871, 872, 873, 874, 875, 867] (by decide +kernel) (by decide +kernel)
set_option maxRecDepth 20000 in
theorem gL_law_X7_of : GoodIn wsL_law (wsV RL 56 RX7 yX7_of wsX7_of) := goodIn_app (goodIn_of _ (by decide +kernel)) ggL_law_X7_of
set_option maxRecDepth 20000 in
theorem ggL_law_X8_of : GoodIn wsL_law wsX8_of := goodIn_r _ [506, 108, 219, 220, 5, 221, 183, 184, 185, 222, 223, 224, 225, 834, 835, 836, 837, 838, 839, 840, 841, 842, 843, 844, 845] (by decide +kernel) (by decide +kernel)
set_option maxRecDepth 20000 in
theorem gL_law_X8_of : GoodIn wsL_law (wsV RL 59 RX8 yX8_of wsX8_of) := goodIn_app (goodIn_of _ (by decide +kernel)) ggL_law_X8_of
set_option maxRecDepth 20000 in
theorem ggL_law_X7_performer : GoodIn wsL_law wsX7_performer := goodIn_r _ [510, 16, 511, 512, 513, 44, 514, 80, 81, 82, 254, 2, 255, 515, 392, 393, 394, 163, 78, 349, 170, 171, 36, 172, 58, 829, 830, 831, 832, 833, 846, 847, 848, 849, 850, 851, 852, 853, 854, 855, 856, 876, 877, 878, 879, 880, 881, 867] (by decide +kernel) (by decide +kernel)
set_option maxRecDepth 20000 in
theorem gL_law_X7_performer : GoodIn wsL_law (wsV RL 60 RX7 yX7_performer wsX7_performer) := goodIn_app (goodIn_of _ (by decide +kernel)) ggL_law_X7_performer
set_option maxRecDepth 20000 in
theorem ggL_law_X8_performer : GoodIn wsL_law wsX8_performer := goodIn_r _ [519, 276, 277, 5, 278, 183, 184, 185, 407, 408, 409, 410, 108, 520, 521, 522, 523, 834, 835, 836, 837, 838, 839, 840, 841, 842, 843, 844, 845] (by decide +kernel) (by decide +kernel)
set_option maxRecDepth 20000 in
theorem gL_law_X8_performer : GoodIn wsL_law (wsV RL 63 RX8 yX8_performer wsX8_performer) := goodIn_app (goodIn_of _ (by decide +kernel)) ggL_law_X8_performer
set_option maxRecDepth 20000 in
theorem ggL_law_X7_owed : GoodIn wsL_law wsX7_owed := goodIn_r _ [527, 16, 528, 529, 530, 44, 531, 163, 78, 79, 349, 170, 171, 36, 172, 58, 829, 830, 831, 832, 833, 846, 847, 848, 849, 850, 851, 852, 853, 854, 855, 856, 876, 877, 878, 879, 880, 881, 867] (by decide +kernel) (by decide +kernel)
set_option maxRecDepth 20000 in
theorem gL_law_X7_owed : GoodIn wsL_law (wsV RL 64 RX7 yX7_owed wsX7_owed) := goodIn_app (goodIn_of _ (by decide +kernel)) ggL_law_X7_owed
set_option maxRecDepth 20000 in
theorem ggL_law_X8_owed : GoodIn wsL_law wsX8_owed := goodIn_r _ [535, 108, 183, 184, 5, 185, 367, 368, 369, 370, 834, 835, 836, 837, 838, 839, 840, 841, 842, 843, 844, 845] (by decide +kernel) (by decide +kernel)
set_option maxRecDepth 20000 in
theorem gL_law_X8_owed : GoodIn wsL_law (wsV RL 67 RX8 yX8_owed wsX8_owed) := goodIn_app (goodIn_of _ (by decide +kernel)) ggL_law_X8_owed
set_option maxRecDepth 20000 in
theorem ggL_law_X7_clapper : GoodIn wsL_law wsX7_clapper := goodIn_r _ [539, 16, 540, 541, 542, 40, 543, 155, 68, 301, 170, 171, 36, 172, 58, 829, 830, 831, 832, 833, 846, 847, 848, 849, 850, 851, 852, 853, 854, 855, 856, 868, 869, 870, 871, 872, 873, 874, 875, 867] (by decide +kernel) (by decide +kernel)
set_option maxRecDepth 20000 in
theorem gL_law_X7_clapper : GoodIn wsL_law (wsV RL 68 RX7 yX7_clapper wsX7_clapper) := goodIn_app (goodIn_of _ (by decide +kernel)) ggL_law_X7_clapper
set_option maxRecDepth 20000 in
theorem ggL_law_X8_clapper : GoodIn wsL_law wsX8_clapper := goodIn_r _ [547, 108, 183, 184, 5, 185, 834, 835, 836, 837, 838, 839, 840, 841, 842, 843, 844, 845] (by decide +kernel) (by decide +kernel)
set_option maxRecDepth 20000 in
theorem gL_law_X8_clapper : GoodIn wsL_law (wsV RL 71 RX8 yX8_clapper wsX8_clapper) := goodIn_app (goodIn_of _ (by decide +kernel)) ggL_law_X8_clapper
set_option maxRecDepth 20000 in
theorem ggL_law_X7_record : GoodIn wsL_law wsX7_record := goodIn_r _ [551, 16, 552, 553, 554, 15, 555, 137, 291, 145, 55, 146, 47, 435, 436, 437, 169, 170, 171, 36, 172, 58, 829, 830, 831, 832, 833, 846, 847, 848, 849, 850, 851, 852, 853, 854, 855, 856, 867] (by decide +kernel) (by decide +kernel)
set_option maxRecDepth 20000 in
theorem gL_law_X7_record : GoodIn wsL_law (wsV RL 72 RX7 yX7_record wsX7_record) := goodIn_app (goodIn_of _ (by decide +kernel)) ggL_law_X7_record
set_option maxRecDepth 20000 in
theorem ggL_law_X8_record : GoodIn wsL_law wsX8_record := goodIn_r _ [559, 108, 183, 184, 5, 185, 834, 835, 836, 837, 838, 839, 840, 841, 842, 843, 844, 845] (by decide +kernel) (by decide +kernel)
set_option maxRecDepth 20000 in
theorem gL_law_X8_record : GoodIn wsL_law (wsV RL 75 RX8 yX8_record wsX8_record) := goodIn_app (goodIn_of _ (by decide +kernel)) ggL_law_X8_record
set_option maxRecDepth 20000 in
theorem ggL_law_X7_sign : GoodIn wsL_law wsX7_sign := goodIn_r _ [563, 25, 564, 565, 566, 24, 567, 463, 568, 569, 570, 571, 98, 829, 830, 831, 832, 833, 860, 861] (by decide +kernel) (by decide +kernel)
set_option maxRecDepth 20000 in
theorem gL_law_X7_sign : GoodIn wsL_law (wsV RL 76 RX7 yX7_sign wsX7_sign) := goodIn_app (goodIn_of _ (by decide +kernel)) ggL_law_X7_sign
set_option maxRecDepth 20000 in
theorem ggL_law_X8_sign : GoodIn wsL_law wsX8_sign := goodIn_r _ [575, 485, 113, 183, 184, 5, 185, 834, 835, 836, 837, 838, 839, 840, 841, 842, 843, 844, 845] (by decide +kernel) (by decide +kernel)
set_option maxRecDepth 20000 in
theorem gL_law_X8_sign : GoodIn wsL_law (wsV RL 79 RX8 yX8_sign wsX8_sign) := goodIn_app (goodIn_of _ (by decide +kernel)) ggL_law_X8_sign
set_option maxRecDepth 20000 in
theorem ggL_law_X7_count : GoodIn wsL_law wsX7_count := goodIn_r _ [579, 25, 20, 16, 477, 478, 479, 24, 480, 463, 580, 581, 582, 19, 583, 177, 584, 585, 586, 15, 587, 135, 136, 137, 46, 45, 48, 138, 41, 37, 169, 170, 171, 36, 172, 58, 588, 589, 590, 591, 592, 593, 594, 595, 596, 597, 598, 40, 599, 65, 301, 829, 830, 831, 832, 833, 860, 861, 857, 858, 859, 846, 847, 848, 849, 850, 851, 852, 853, 854, 855, 856, 876, 877, 878, 879, 880, 881, 868, 869, 870, 871, 872, 873, 874, 875, 867] (by decide +kernel) (by decide +kernel)
set_option maxRecDepth 20000 in
theorem gL_law_X7_count : GoodIn wsL_law (wsV RL 80 RX7 yX7_count wsX7_count) := goodIn_app (goodIn_of _ (by decide +kernel)) ggL_law_X7_count
set_option maxRecDepth 20000 in
theorem ggL_law_X8_count : GoodIn wsL_law wsX8_count := goodIn_r _ [603, 108, 485, 204, 183, 184, 5, 185, 604, 605, 606, 607, 520, 521, 522, 523, 242, 243, 244, 245, 222, 223, 224, 225, 834, 835, 836, 837, 838, 839, 840, 841, 842, 843, 844, 845] (by decide +kernel) (by decide +kernel)
set_option maxRecDepth 20000 in
theorem gL_law_X8_count : GoodIn wsL_law (wsV RL 83 RX8 yX8_count wsX8_count) := goodIn_app (goodIn_of _ (by decide +kernel)) ggL_law_X8_count
set_option maxRecDepth 20000 in
theorem ggL_law_X7_quietIn : GoodIn wsL_law wsX7_quietIn := goodIn_r _ [611, 16, 612, 613, 614, 15, 615, 135, 37, 169, 170, 171, 36, 172, 58, 342, 2, 343, 344, 54, 55, 56, 829, 830, 831, 832, 833, 846, 847, 848, 849, 850, 851, 852, 853, 854, 855, 856, 867] (by decide +kernel) (by decide +kernel)
set_option maxRecDepth 20000 in
theorem gL_law_X7_quietIn : GoodIn wsL_law (wsV RL 84 RX7 yX7_quietIn wsX7_quietIn) := goodIn_app (goodIn_of _ (by decide +kernel)) ggL_law_X7_quietIn
set_option maxRecDepth 20000 in
theorem ggL_law_X8_quietIn : GoodIn wsL_law wsX8_quietIn := goodIn_r _ [619, 108, 183, 184, 5, 185, 363, 364, 365, 366, 834, 835, 836, 837, 838, 839, 840, 841, 842, 843, 844, 845] (by decide +kernel) (by decide +kernel)
set_option maxRecDepth 20000 in
theorem gL_law_X8_quietIn : GoodIn wsL_law (wsV RL 87 RX8 yX8_quietIn wsX8_quietIn) := goodIn_app (goodIn_of _ (by decide +kernel)) ggL_law_X8_quietIn
set_option maxRecDepth 20000 in
theorem ggL_law_X7_clapsFor : GoodIn wsL_law wsX7_clapsFor := goodIn_r _ [623, 16, 624, 625, 626, 15, 627, 48, 139, 41, 37, 135, 213, 2, 214, 169, 170, 171, 36, 172, 58, 829, 830, 831, 832, 833, 846, 847, 848, 849, 850, 851, 852, 853, 854, 855, 856, 868, 869, 870, 871, 872, 873, 874, 875, 867] (by decide +kernel) (by decide +kernel)
set_option maxRecDepth 20000 in
theorem gL_law_X7_clapsFor : GoodIn wsL_law (wsV RL 88 RX7 yX7_clapsFor wsX7_clapsFor) := goodIn_app (goodIn_of _ (by decide +kernel)) ggL_law_X7_clapsFor
set_option maxRecDepth 20000 in
theorem ggL_law_X8_clapsFor : GoodIn wsL_law wsX8_clapsFor := goodIn_r _ [631, 108, 219, 220, 5, 221, 183, 184, 185, 222, 223, 224, 225, 834, 835, 836, 837, 838, 839, 840, 841, 842, 843, 844, 845] (by decide +kernel) (by decide +kernel)
set_option maxRecDepth 20000 in
theorem gL_law_X8_clapsFor : GoodIn wsL_law (wsV RL 91 RX8 yX8_clapsFor wsX8_clapsFor) := goodIn_app (goodIn_of _ (by decide +kernel)) ggL_law_X8_clapsFor
set_option maxRecDepth 20000 in
theorem ggL_law_X7_lapsesIn : GoodIn wsL_law wsX7_lapsesIn := goodIn_r _ [635, 16, 636, 637, 638, 15, 639, 45, 136, 37, 640, 54, 55, 56, 254, 2, 255, 641, 388, 389, 44, 390, 163, 78, 349, 170, 171, 36, 172, 58, 169, 829, 830, 831, 832, 833, 846, 847, 848, 849, 850, 851, 852, 853, 854, 855, 856, 876, 877, 878, 879, 880, 881, 867] (by decide +kernel) (by decide +kernel)
set_option maxRecDepth 20000 in
theorem gL_law_X7_lapsesIn : GoodIn wsL_law (wsV RL 92 RX7 yX7_lapsesIn wsX7_lapsesIn) := goodIn_app (goodIn_of _ (by decide +kernel)) ggL_law_X7_lapsesIn
set_option maxRecDepth 20000 in
theorem ggL_law_X8_lapsesIn : GoodIn wsL_law wsX8_lapsesIn := goodIn_r _ [645, 108, 276, 277, 5, 278, 183, 184, 185, 403, 404, 405, 406, 367, 368, 369, 370, 834, 835, 836, 837, 838, 839, 840, 841, 842, 843, 844, 845] (by decide +kernel) (by decide +kernel)
set_option maxRecDepth 20000 in
theorem gL_law_X8_lapsesIn : GoodIn wsL_law (wsV RL 95 RX8 yX8_lapsesIn wsX8_lapsesIn) := goodIn_app (goodIn_of _ (by decide +kernel)) ggL_law_X8_lapsesIn
set_option maxRecDepth 20000 in
theorem ggL_law_X7_calls : GoodIn wsL_law wsX7_calls := goodIn_r _ [649, 16, 650, 651, 652, 15, 653, 135, 37, 169, 170, 171, 36, 172, 58, 829, 830, 831, 832, 833, 846, 847, 848, 849, 850, 851, 852, 853, 854, 855, 856, 867] (by decide +kernel) (by decide +kernel)
set_option maxRecDepth 20000 in
theorem gL_law_X7_calls : GoodIn wsL_law (wsV RL 96 RX7 yX7_calls wsX7_calls) := goodIn_app (goodIn_of _ (by decide +kernel)) ggL_law_X7_calls
set_option maxRecDepth 20000 in
theorem ggL_law_X8_calls : GoodIn wsL_law wsX8_calls := goodIn_r _ [657, 108, 834, 835, 836, 837, 838, 839, 840, 841, 842, 843, 844, 845] (by decide +kernel) (by decide +kernel)
set_option maxRecDepth 20000 in
theorem gL_law_X8_calls : GoodIn wsL_law (wsV RL 99 RX8 yX8_calls wsX8_calls) := goodIn_app (goodIn_of _ (by decide +kernel)) ggL_law_X8_calls
set_option maxRecDepth 20000 in
theorem ggL_law_X7_ifFound : GoodIn wsL_law wsX7_ifFound := goodIn_r _ [661, 662, 663, 16, 664, 597, 598, 40, 599, 65, 301, 170, 171, 36, 172, 58, 829, 830, 831, 832, 833, 846, 847, 848, 849, 850, 851, 852, 853, 854, 855, 856, 868, 869, 870, 871, 872, 873, 874, 875, 867] (by decide +kernel) (by decide +kernel)
set_option maxRecDepth 20000 in
theorem gL_law_X7_ifFound : GoodIn wsL_law (wsV RL 100 RX7 yX7_ifFound wsX7_ifFound) := goodIn_app (goodIn_of _ (by decide +kernel)) ggL_law_X7_ifFound
set_option maxRecDepth 20000 in
theorem ggL_law_X8_ifFound : GoodIn wsL_law wsX8_ifFound := goodIn_r _ [668, 183, 184, 5, 185, 242, 243, 244, 245, 222, 223, 224, 225, 108, 834, 835, 836, 837, 838, 839, 840, 841, 842, 843, 844, 845] (by decide +kernel) (by decide +kernel)
set_option maxRecDepth 20000 in
theorem gL_law_X8_ifFound : GoodIn wsL_law (wsV RL 103 RX8 yX8_ifFound wsX8_ifFound) := goodIn_app (goodIn_of _ (by decide +kernel)) ggL_law_X8_ifFound
set_option maxRecDepth 20000 in
theorem ggL_law_X7_put : GoodIn wsL_law wsX7_put := goodIn_r _ [672, 25, 673, 674, 675, 24, 676, 463, 677, 678, 679, 680, 473, 474, 475, 476, 98, 829, 830, 831, 832, 833, 860, 861] (by decide +kernel) (by decide +kernel)
set_option maxRecDepth 20000 in
theorem gL_law_X7_put : GoodIn wsL_law (wsV RL 106 RX7 yX7_put wsX7_put) := goodIn_app (goodIn_of _ (by decide +kernel)) ggL_law_X7_put
set_option maxRecDepth 20000 in
theorem ggL_law_X8_put : GoodIn wsL_law wsX8_put := goodIn_r _ [684, 485, 685, 686, 687, 5, 688, 689, 690, 691, 183, 184, 185, 486, 487, 488, 489, 113, 834, 835, 836, 837, 838, 839, 840, 841, 842, 843, 844, 845] (by decide +kernel) (by decide +kernel)
set_option maxRecDepth 20000 in
theorem gL_law_X8_put : GoodIn wsL_law (wsV RL 110 RX8 yX8_put wsX8_put) := goodIn_app (goodIn_of _ (by decide +kernel)) ggL_law_X8_put
set_option maxRecDepth 20000 in
theorem ggL_law_X7_wipe : GoodIn wsL_law wsX7_wipe := goodIn_r _ [695, 25, 477, 478, 479, 24, 480, 463, 459, 460, 461, 462, 829, 830, 831, 832, 833, 860, 861] (by decide +kernel) (by decide +kernel)
set_option maxRecDepth 20000 in
theorem gL_law_X7_wipe : GoodIn wsL_law (wsV RL 111 RX7 yX7_wipe wsX7_wipe) := goodIn_app (goodIn_of _ (by decide +kernel)) ggL_law_X7_wipe
set_option maxRecDepth 20000 in
theorem ggL_law_X8_wipe : GoodIn wsL_law wsX8_wipe := goodIn_r _ [699, 485, 834, 835, 836, 837, 838, 839, 840, 841, 842, 843, 844, 845] (by decide +kernel) (by decide +kernel)
set_option maxRecDepth 20000 in
theorem gL_law_X8_wipe : GoodIn wsL_law (wsV RL 114 RX8 yX8_wipe wsX8_wipe) := goodIn_app (goodIn_of _ (by decide +kernel)) ggL_law_X8_wipe
set_option maxRecDepth 20000 in
theorem ggL_law_X7_fault : GoodIn wsL_law wsX7_fault := goodIn_r _ [703, 29, 704, 705, 706, 28, 707, 708, 103, 709, 710, 711, 712, 713, 714, 715, 569, 570, 24, 571, 463, 98, 716, 717, 718, 719, 720, 721, 722, 723, 724, 725, 726, 727, 728, 729, 730, 731, 732, 733, 478, 479, 480, 829, 830, 831, 832, 833, 862, 863, 864, 865, 866, 860, 861] (by decide +kernel) (by decide +kernel)
set_option maxRecDepth 20000 in
theorem gL_law_X7_fault : GoodIn wsL_law (wsV RL 115 RX7 yX7_fault wsX7_fault) := goodIn_app (goodIn_of _ (by decide +kernel)) ggL_law_X7_fault
set_option maxRecDepth 20000 in
theorem ggL_law_X8_fault : GoodIn wsL_law wsX8_fault := goodIn_r _ [737, 738, 739, 740, 5, 741, 742, 485, 743, 744, 745, 746, 747, 748, 749, 750, 751, 752, 753, 113, 754, 755, 756, 757, 183, 184, 185, 758, 759, 760, 761, 762, 763, 764, 765, 766, 767, 768, 769, 834, 835, 836, 837, 838, 839, 840, 841, 842, 843, 844, 845] (by decide +kernel) (by decide +kernel)
set_option maxRecDepth 20000 in
theorem gL_law_X8_fault : GoodIn wsL_law (wsV RL 118 RX8 yX8_fault wsX8_fault) := goodIn_app (goodIn_of _ (by decide +kernel)) ggL_law_X8_fault
set_option maxRecDepth 20000 in
theorem ggL_law_X7_carryOut : GoodIn wsL_law wsX7_carryOut := goodIn_r _ [773, 29, 20, 16, 25, 704, 705, 706, 28, 707, 708, 103, 709, 710, 711, 712, 713, 714, 715, 569, 570, 24, 571, 463, 98, 716, 717, 718, 719, 720, 721, 722, 723, 724, 725, 726, 727, 728, 729, 730, 731, 732, 733, 478, 479, 480, 122, 123, 124, 19, 125, 126, 127, 128, 129, 130, 93, 131, 132, 133, 15, 134, 37, 41, 45, 46, 47, 135, 136, 137, 48, 138, 139, 140, 141, 142, 36, 143, 58, 144, 145, 55, 146, 147, 148, 149, 150, 151, 152, 153, 40, 154, 64, 65, 66, 67, 68, 155, 156, 157, 158, 159, 160, 161, 44, 162, 78, 79, 80, 81, 82, 163, 164, 774, 775, 776, 777, 778, 779, 780, 781, 782, 251, 252, 253, 254, 2, 255, 256, 257, 258, 259, 260, 261, 262, 263, 264, 265, 266, 267, 783, 288, 289, 290, 291, 213, 214, 169, 170, 171, 172, 292, 293, 294, 295, 296, 297, 298, 299, 300, 301, 302, 85, 86, 87, 303, 304, 305, 306, 307, 308, 309, 310, 311, 312, 784, 338, 339, 340, 341, 342, 343, 344, 54, 56, 345, 346, 347, 348, 349, 785, 380, 381, 382, 383, 384, 385, 386, 387, 388, 389, 390, 391, 392, 393, 394, 786, 416, 417, 418, 787, 432, 433, 434, 435, 436, 437, 84, 438, 71, 72, 73, 439, 440, 441, 442, 70, 788, 231, 232, 233, 459, 460, 461, 462, 173, 174, 175, 176, 177, 178, 829, 830, 831, 832, 833, 862, 863, 864, 865, 866, 860, 861, 857, 858, 859, 846, 847, 848, 849, 850, 851, 852, 853, 854, 855, 856, 867, 868, 869, 870, 871, 872, 873, 874, 875, 876, 877, 878, 879, 880, 881] (by decide +kernel) (by decide +kernel)
set_option maxRecDepth 20000 in
theorem gL_law_X7_carryOut : GoodIn wsL_law (wsV RL 119 RX7 yX7_carryOut wsX7_carryOut) := goodIn_app (goodIn_of _ (by decide +kernel)) ggL_law_X7_carryOut
set_option maxRecDepth 20000 in
theorem ggL_law_X8_carryOut : GoodIn wsL_law wsX8_carryOut := goodIn_r _ [792, 742, 485, 748, 738, 739, 740, 5, 741, 743, 744, 745, 746, 747, 749, 750, 751, 752, 753, 113, 754, 755, 756, 757, 183, 184, 185, 758, 759, 760, 761, 762, 763, 764, 765, 766, 767, 768, 769, 192, 193, 194, 195, 109, 108, 200, 201, 202, 203, 204, 110, 793, 794, 795, 796, 272, 273, 274, 275, 276, 277, 278, 279, 280, 281, 282, 114, 115, 116, 117, 317, 318, 319, 320, 219, 220, 221, 222, 223, 224, 225, 321, 322, 323, 324, 325, 326, 327, 328, 329, 330, 331, 332, 354, 355, 356, 357, 358, 359, 360, 361, 362, 363, 364, 365, 366, 367, 368, 369, 370, 371, 372, 373, 374, 399, 400, 401, 402, 403, 404, 405, 406, 407, 408, 409, 410, 423, 424, 425, 426, 447, 448, 449, 450, 451, 452, 453, 454, 238, 239, 240, 241, 242, 243, 244, 245, 834, 835, 836, 837, 838, 839, 840, 841, 842, 843, 844, 845] (by decide +kernel) (by decide +kernel)
set_option maxRecDepth 20000 in
theorem gL_law_X8_carryOut : GoodIn wsL_law (wsV RL 122 RX8 yX8_carryOut wsX8_carryOut) := goodIn_app (goodIn_of _ (by decide +kernel)) ggL_law_X8_carryOut
set_option maxRecDepth 20000 in
theorem ggL_law_X7_undo : GoodIn wsL_law wsX7_undo := goodIn_r _ [800, 20, 16, 801, 802, 803, 19, 804, 126, 177, 127, 128, 129, 130, 93, 131, 132, 133, 15, 134, 37, 41, 45, 46, 47, 135, 136, 137, 48, 138, 139, 140, 141, 142, 36, 143, 58, 144, 145, 55, 146, 147, 148, 149, 150, 151, 152, 153, 40, 154, 64, 65, 66, 67, 68, 155, 156, 157, 158, 159, 160, 161, 44, 162, 78, 79, 80, 81, 82, 163, 164, 829, 830, 831, 832, 833, 857, 858, 859, 846, 847, 848, 849, 850, 851, 852, 853, 854, 855, 856, 867, 868, 869, 870, 871, 872, 873, 874, 875, 876, 877, 878, 879, 880, 881] (by decide +kernel) (by decide +kernel)
set_option maxRecDepth 20000 in
theorem gL_law_X7_undo : GoodIn wsL_law (wsV RL 123 RX7 yX7_undo wsX7_undo) := goodIn_app (goodIn_of _ (by decide +kernel)) ggL_law_X7_undo
set_option maxRecDepth 20000 in
theorem ggL_law_X8_undo : GoodIn wsL_law wsX8_undo := goodIn_r _ [808, 204, 108, 110, 834, 835, 836, 837, 838, 839, 840, 841, 842, 843, 844, 845] (by decide +kernel) (by decide +kernel)
set_option maxRecDepth 20000 in
theorem gL_law_X8_undo : GoodIn wsL_law (wsV RL 126 RX8 yX8_undo wsX8_undo) := goodIn_app (goodIn_of _ (by decide +kernel)) ggL_law_X8_undo
set_option maxRecDepth 20000 in
theorem ggL_law_X7_save : GoodIn wsL_law wsX7_save := goodIn_r _ [812, 21, 13, 14, 15, 16, 30, 31, 32, 33, 11, 12, 34, 35, 36, 37, 38, 39, 40, 41, 42, 43, 44, 45, 46, 47, 48, 49, 50, 51, 52, 53, 54, 55, 56, 57, 58, 59, 60, 61, 62, 63, 64, 65, 66, 67, 68, 69, 70, 71, 72, 73, 74, 75, 76, 77, 78, 79, 80, 81, 82, 83, 84, 85, 86, 87, 813, 132, 133, 134, 135, 136, 137, 138, 139, 140, 141, 142, 143, 144, 145, 146, 147, 148, 149, 150, 151, 152, 153, 154, 155, 156, 157, 158, 159, 160, 161, 162, 163, 164, 829, 830, 831, 832, 833, 846, 847, 848, 849, 850, 851, 852, 853, 854, 855, 856, 867, 868, 869, 870, 871, 872, 873, 874, 875, 876, 877, 878, 879, 880, 881] (by decide +kernel) (by decide +kernel)
set_option maxRecDepth 20000 in
theorem gL_law_X7_save : GoodIn wsL_law (wsV RL 127 RX7 yX7_save wsX7_save) := goodIn_app (goodIn_of _ (by decide +kernel)) ggL_law_X7_save
set_option maxRecDepth 20000 in
theorem ggL_law_X8_save : GoodIn wsL_law wsX8_save := goodIn_r _ [817, 111, 108, 112, 818, 819, 5, 820, 183, 184, 185, 834, 835, 836, 837, 838, 839, 840, 841, 842, 843, 844, 845] (by decide +kernel) (by decide +kernel)
set_option maxRecDepth 20000 in
theorem gL_law_X8_save : GoodIn wsL_law (wsV RL 130 RX8 yX8_save wsX8_save) := goodIn_app (goodIn_of _ (by decide +kernel)) ggL_law_X8_save
set_option maxRecDepth 20000 in
theorem ggL_law_X7_restore : GoodIn wsL_law wsX7_restore := goodIn_r _ [824, 21, 20, 16, 122, 123, 124, 19, 125, 126, 127, 128, 129, 130, 93, 131, 132, 133, 15, 134, 37, 41, 45, 46, 47, 135, 136, 137, 48, 138, 139, 140, 141, 142, 36, 143, 58, 144, 145, 55, 146, 147, 148, 149, 150, 151, 152, 153, 40, 154, 64, 65, 66, 67, 68, 155, 156, 157, 158, 159, 160, 161, 44, 162, 78, 79, 80, 81, 82, 163, 164, 813, 173, 174, 175, 176, 177, 178, 829, 830, 831, 832, 833, 846, 847, 848, 849, 850, 851, 852, 853, 854, 855, 856, 857, 858, 859, 867, 868, 869, 870, 871, 872, 873, 874, 875, 876, 877, 878, 879, 880, 881] (by decide +kernel) (by decide +kernel)
set_option maxRecDepth 20000 in
theorem gL_law_X7_restore : GoodIn wsL_law (wsV RL 131 RX7 yX7_restore wsX7_restore) := goodIn_app (goodIn_of _ (by decide +kernel)) ggL_law_X7_restore
set_option maxRecDepth 20000 in
theorem ggL_law_X8_restore : GoodIn wsL_law wsX8_restore := goodIn_r _ [828, 112, 108, 111, 818, 819, 5, 820, 183, 184, 185, 192, 193, 194, 195, 109, 200, 201, 202, 203, 204, 110, 834, 835, 836, 837, 838, 839, 840, 841, 842, 843, 844, 845] (by decide +kernel) (by decide +kernel)
set_option maxRecDepth 20000 in
theorem gL_law_X8_restore : GoodIn wsL_law (wsV RL 134 RX8 yX8_restore wsX8_restore) := goodIn_app (goodIn_of _ (by decide +kernel)) ggL_law_X8_restore
theorem dL_law_0 : decode cL_law 0 = .ok (.new 7, 3) := by decide +kernel
theorem dL_law_3 : decode cL_law 3 = .ok (.dup, 1) := by decide +kernel
theorem dL_law_4 : decode cL_law 4 = .ok (.invokespecial 9, 3) := by decide +kernel
theorem dL_law_7 : decode cL_law 7 = .ok (.astore_n 1, 1) := by decide +kernel
theorem dL_law_8 : decode cL_law 8 = .ok (.new 10, 3) := by decide +kernel
theorem dL_law_11 : decode cL_law 11 = .ok (.dup, 1) := by decide +kernel
theorem dL_law_12 : decode cL_law 12 = .ok (.invokespecial 12, 3) := by decide +kernel
theorem dL_law_15 : decode cL_law 15 = .ok (.astore_n 2, 1) := by decide +kernel
theorem dL_law_16 : decode cL_law 16 = .ok (.iconst 0, 1) := by decide +kernel
theorem dL_law_17 : decode cL_law 17 = .ok (.istore_n 3, 1) := by decide +kernel
theorem dL_law_18 : decode cL_law 18 = .ok (.iload_n 3, 1) := by decide +kernel
theorem dL_law_19 : decode cL_law 19 = .ok (.aload_n 0, 1) := by decide +kernel
theorem dL_law_20 : decode cL_law 20 = .ok (.arraylength, 1) := by decide +kernel
theorem dL_law_21 : decode cL_law 21 = .ok (.iconst 3, 1) := by decide +kernel
theorem dL_law_22 : decode cL_law 22 = .ok (.isub, 1) := by decide +kernel
theorem dL_law_23 : decode cL_law 23 = .ok (.if_icmp .gt 824, 3) := by decide +kernel
theorem dL_law_26 : decode cL_law 26 = .ok (.aload_n 0, 1) := by decide +kernel
theorem dL_law_27 : decode cL_law 27 = .ok (.iload_n 3, 1) := by decide +kernel
theorem dL_law_28 : decode cL_law 28 = .ok (.iaload, 1) := by decide +kernel
theorem dL_law_29 : decode cL_law 29 = .ok (.bipush 31, 2) := by decide +kernel
theorem dL_law_31 : decode cL_law 31 = .ok (.iand, 1) := by decide +kernel
theorem dL_law_32 : decode cL_law 32 = .ok (.tableswitch 809 0 28 #[132, 165, 198, 221, 244, 267, 290, 313, 326, 339, 352, 385, 418, 451, 474, 507, 530, 553, 576, 599, 622, 635, 658, 711, 724, 737, 750, 763, 786], 132) := by decide +kernel
theorem dL_law_164 : decode cL_law 164 = .ok (.aload_n 1, 1) := by decide +kernel
theorem dL_law_165 : decode cL_law 165 = .ok (.aload_n 0, 1) := by decide +kernel
theorem dL_law_166 : decode cL_law 166 = .ok (.iload_n 3, 1) := by decide +kernel
theorem dL_law_167 : decode cL_law 167 = .ok (.iconst 1, 1) := by decide +kernel
theorem dL_law_168 : decode cL_law 168 = .ok (.iadd, 1) := by decide +kernel
theorem dL_law_169 : decode cL_law 169 = .ok (.iaload, 1) := by decide +kernel
theorem dL_law_170 : decode cL_law 170 = .ok (.aload_n 0, 1) := by decide +kernel
theorem dL_law_171 : decode cL_law 171 = .ok (.iload_n 3, 1) := by decide +kernel
theorem dL_law_172 : decode cL_law 172 = .ok (.iconst 2, 1) := by decide +kernel
theorem dL_law_173 : decode cL_law 173 = .ok (.iadd, 1) := by decide +kernel
theorem dL_law_174 : decode cL_law 174 = .ok (.iaload, 1) := by decide +kernel
theorem dL_law_175 : decode cL_law 175 = .ok (.invokevirtual 13, 3) := by decide +kernel
theorem dL_law_178 : decode cL_law 178 = .ok (.aload_n 2, 1) := by decide +kernel
theorem dL_law_179 : decode cL_law 179 = .ok (.aload_n 0, 1) := by decide +kernel
theorem dL_law_180 : decode cL_law 180 = .ok (.iload_n 3, 1) := by decide +kernel
theorem dL_law_181 : decode cL_law 181 = .ok (.iconst 1, 1) := by decide +kernel
theorem dL_law_182 : decode cL_law 182 = .ok (.iadd, 1) := by decide +kernel
theorem dL_law_183 : decode cL_law 183 = .ok (.iaload, 1) := by decide +kernel
theorem dL_law_184 : decode cL_law 184 = .ok (.aload_n 0, 1) := by decide +kernel
theorem dL_law_185 : decode cL_law 185 = .ok (.iload_n 3, 1) := by decide +kernel
theorem dL_law_186 : decode cL_law 186 = .ok (.iconst 2, 1) := by decide +kernel
theorem dL_law_187 : decode cL_law 187 = .ok (.iadd, 1) := by decide +kernel
theorem dL_law_188 : decode cL_law 188 = .ok (.iaload, 1) := by decide +kernel
theorem dL_law_189 : decode cL_law 189 = .ok (.invokevirtual 17, 3) := by decide +kernel
theorem dL_law_192 : decode cL_law 192 = .ok (.if_icmp .eq 649, 3) := by decide +kernel
theorem dL_law_195 : decode cL_law 195 = .ok (.iconst 0, 1) := by decide +kernel
theorem dL_law_196 : decode cL_law 196 = .ok (.ireturn, 1) := by decide +kernel
theorem dL_law_197 : decode cL_law 197 = .ok (.aload_n 1, 1) := by decide +kernel
theorem dL_law_198 : decode cL_law 198 = .ok (.aload_n 0, 1) := by decide +kernel
theorem dL_law_199 : decode cL_law 199 = .ok (.iload_n 3, 1) := by decide +kernel
theorem dL_law_200 : decode cL_law 200 = .ok (.iconst 1, 1) := by decide +kernel
theorem dL_law_201 : decode cL_law 201 = .ok (.iadd, 1) := by decide +kernel
theorem dL_law_202 : decode cL_law 202 = .ok (.iaload, 1) := by decide +kernel
theorem dL_law_203 : decode cL_law 203 = .ok (.aload_n 0, 1) := by decide +kernel
theorem dL_law_204 : decode cL_law 204 = .ok (.iload_n 3, 1) := by decide +kernel
theorem dL_law_205 : decode cL_law 205 = .ok (.iconst 2, 1) := by decide +kernel
theorem dL_law_206 : decode cL_law 206 = .ok (.iadd, 1) := by decide +kernel
theorem dL_law_207 : decode cL_law 207 = .ok (.iaload, 1) := by decide +kernel
theorem dL_law_208 : decode cL_law 208 = .ok (.invokevirtual 18, 3) := by decide +kernel
theorem dL_law_211 : decode cL_law 211 = .ok (.aload_n 2, 1) := by decide +kernel
theorem dL_law_212 : decode cL_law 212 = .ok (.aload_n 0, 1) := by decide +kernel
theorem dL_law_213 : decode cL_law 213 = .ok (.iload_n 3, 1) := by decide +kernel
theorem dL_law_214 : decode cL_law 214 = .ok (.iconst 1, 1) := by decide +kernel
theorem dL_law_215 : decode cL_law 215 = .ok (.iadd, 1) := by decide +kernel
theorem dL_law_216 : decode cL_law 216 = .ok (.iaload, 1) := by decide +kernel
theorem dL_law_217 : decode cL_law 217 = .ok (.aload_n 0, 1) := by decide +kernel
theorem dL_law_218 : decode cL_law 218 = .ok (.iload_n 3, 1) := by decide +kernel
theorem dL_law_219 : decode cL_law 219 = .ok (.iconst 2, 1) := by decide +kernel
theorem dL_law_220 : decode cL_law 220 = .ok (.iadd, 1) := by decide +kernel
theorem dL_law_221 : decode cL_law 221 = .ok (.iaload, 1) := by decide +kernel
theorem dL_law_222 : decode cL_law 222 = .ok (.invokevirtual 21, 3) := by decide +kernel
theorem dL_law_225 : decode cL_law 225 = .ok (.if_icmp .eq 616, 3) := by decide +kernel
theorem dL_law_228 : decode cL_law 228 = .ok (.iconst 0, 1) := by decide +kernel
theorem dL_law_229 : decode cL_law 229 = .ok (.ireturn, 1) := by decide +kernel
theorem dL_law_230 : decode cL_law 230 = .ok (.aload_n 1, 1) := by decide +kernel
theorem dL_law_231 : decode cL_law 231 = .ok (.aload_n 0, 1) := by decide +kernel
theorem dL_law_232 : decode cL_law 232 = .ok (.iload_n 3, 1) := by decide +kernel
theorem dL_law_233 : decode cL_law 233 = .ok (.iconst 1, 1) := by decide +kernel
theorem dL_law_234 : decode cL_law 234 = .ok (.iadd, 1) := by decide +kernel
theorem dL_law_235 : decode cL_law 235 = .ok (.iaload, 1) := by decide +kernel
theorem dL_law_236 : decode cL_law 236 = .ok (.invokevirtual 22, 3) := by decide +kernel
theorem dL_law_239 : decode cL_law 239 = .ok (.aload_n 2, 1) := by decide +kernel
theorem dL_law_240 : decode cL_law 240 = .ok (.aload_n 0, 1) := by decide +kernel
theorem dL_law_241 : decode cL_law 241 = .ok (.iload_n 3, 1) := by decide +kernel
theorem dL_law_242 : decode cL_law 242 = .ok (.iconst 1, 1) := by decide +kernel
theorem dL_law_243 : decode cL_law 243 = .ok (.iadd, 1) := by decide +kernel
theorem dL_law_244 : decode cL_law 244 = .ok (.iaload, 1) := by decide +kernel
theorem dL_law_245 : decode cL_law 245 = .ok (.invokevirtual 26, 3) := by decide +kernel
theorem dL_law_248 : decode cL_law 248 = .ok (.if_icmp .eq 593, 3) := by decide +kernel
theorem dL_law_251 : decode cL_law 251 = .ok (.iconst 0, 1) := by decide +kernel
theorem dL_law_252 : decode cL_law 252 = .ok (.ireturn, 1) := by decide +kernel
theorem dL_law_253 : decode cL_law 253 = .ok (.aload_n 1, 1) := by decide +kernel
theorem dL_law_254 : decode cL_law 254 = .ok (.aload_n 0, 1) := by decide +kernel
theorem dL_law_255 : decode cL_law 255 = .ok (.iload_n 3, 1) := by decide +kernel
theorem dL_law_256 : decode cL_law 256 = .ok (.iconst 1, 1) := by decide +kernel
theorem dL_law_257 : decode cL_law 257 = .ok (.iadd, 1) := by decide +kernel
theorem dL_law_258 : decode cL_law 258 = .ok (.iaload, 1) := by decide +kernel
theorem dL_law_259 : decode cL_law 259 = .ok (.invokevirtual 27, 3) := by decide +kernel
theorem dL_law_262 : decode cL_law 262 = .ok (.aload_n 2, 1) := by decide +kernel
theorem dL_law_263 : decode cL_law 263 = .ok (.aload_n 0, 1) := by decide +kernel
theorem dL_law_264 : decode cL_law 264 = .ok (.iload_n 3, 1) := by decide +kernel
theorem dL_law_265 : decode cL_law 265 = .ok (.iconst 1, 1) := by decide +kernel
theorem dL_law_266 : decode cL_law 266 = .ok (.iadd, 1) := by decide +kernel
theorem dL_law_267 : decode cL_law 267 = .ok (.iaload, 1) := by decide +kernel
theorem dL_law_268 : decode cL_law 268 = .ok (.invokevirtual 30, 3) := by decide +kernel
theorem dL_law_271 : decode cL_law 271 = .ok (.if_icmp .eq 570, 3) := by decide +kernel
theorem dL_law_274 : decode cL_law 274 = .ok (.iconst 0, 1) := by decide +kernel
theorem dL_law_275 : decode cL_law 275 = .ok (.ireturn, 1) := by decide +kernel
theorem dL_law_276 : decode cL_law 276 = .ok (.aload_n 1, 1) := by decide +kernel
theorem dL_law_277 : decode cL_law 277 = .ok (.aload_n 0, 1) := by decide +kernel
theorem dL_law_278 : decode cL_law 278 = .ok (.iload_n 3, 1) := by decide +kernel
theorem dL_law_279 : decode cL_law 279 = .ok (.iconst 1, 1) := by decide +kernel
theorem dL_law_280 : decode cL_law 280 = .ok (.iadd, 1) := by decide +kernel
theorem dL_law_281 : decode cL_law 281 = .ok (.iaload, 1) := by decide +kernel
theorem dL_law_282 : decode cL_law 282 = .ok (.invokevirtual 31, 3) := by decide +kernel
theorem dL_law_285 : decode cL_law 285 = .ok (.aload_n 2, 1) := by decide +kernel
theorem dL_law_286 : decode cL_law 286 = .ok (.aload_n 0, 1) := by decide +kernel
theorem dL_law_287 : decode cL_law 287 = .ok (.iload_n 3, 1) := by decide +kernel
theorem dL_law_288 : decode cL_law 288 = .ok (.iconst 1, 1) := by decide +kernel
theorem dL_law_289 : decode cL_law 289 = .ok (.iadd, 1) := by decide +kernel
theorem dL_law_290 : decode cL_law 290 = .ok (.iaload, 1) := by decide +kernel
theorem dL_law_291 : decode cL_law 291 = .ok (.invokevirtual 34, 3) := by decide +kernel
theorem dL_law_294 : decode cL_law 294 = .ok (.if_icmp .eq 547, 3) := by decide +kernel
theorem dL_law_297 : decode cL_law 297 = .ok (.iconst 0, 1) := by decide +kernel
theorem dL_law_298 : decode cL_law 298 = .ok (.ireturn, 1) := by decide +kernel
theorem dL_law_299 : decode cL_law 299 = .ok (.aload_n 1, 1) := by decide +kernel
theorem dL_law_300 : decode cL_law 300 = .ok (.aload_n 0, 1) := by decide +kernel
theorem dL_law_301 : decode cL_law 301 = .ok (.iload_n 3, 1) := by decide +kernel
theorem dL_law_302 : decode cL_law 302 = .ok (.iconst 1, 1) := by decide +kernel
theorem dL_law_303 : decode cL_law 303 = .ok (.iadd, 1) := by decide +kernel
theorem dL_law_304 : decode cL_law 304 = .ok (.iaload, 1) := by decide +kernel
theorem dL_law_305 : decode cL_law 305 = .ok (.invokevirtual 35, 3) := by decide +kernel
theorem dL_law_308 : decode cL_law 308 = .ok (.aload_n 2, 1) := by decide +kernel
theorem dL_law_309 : decode cL_law 309 = .ok (.aload_n 0, 1) := by decide +kernel
theorem dL_law_310 : decode cL_law 310 = .ok (.iload_n 3, 1) := by decide +kernel
theorem dL_law_311 : decode cL_law 311 = .ok (.iconst 1, 1) := by decide +kernel
theorem dL_law_312 : decode cL_law 312 = .ok (.iadd, 1) := by decide +kernel
theorem dL_law_313 : decode cL_law 313 = .ok (.iaload, 1) := by decide +kernel
theorem dL_law_314 : decode cL_law 314 = .ok (.invokevirtual 38, 3) := by decide +kernel
theorem dL_law_317 : decode cL_law 317 = .ok (.if_icmp .eq 524, 3) := by decide +kernel
theorem dL_law_320 : decode cL_law 320 = .ok (.iconst 0, 1) := by decide +kernel
theorem dL_law_321 : decode cL_law 321 = .ok (.ireturn, 1) := by decide +kernel
theorem dL_law_322 : decode cL_law 322 = .ok (.aload_n 1, 1) := by decide +kernel
theorem dL_law_323 : decode cL_law 323 = .ok (.aload_n 0, 1) := by decide +kernel
theorem dL_law_324 : decode cL_law 324 = .ok (.iload_n 3, 1) := by decide +kernel
theorem dL_law_325 : decode cL_law 325 = .ok (.iconst 1, 1) := by decide +kernel
theorem dL_law_326 : decode cL_law 326 = .ok (.iadd, 1) := by decide +kernel
theorem dL_law_327 : decode cL_law 327 = .ok (.iaload, 1) := by decide +kernel
theorem dL_law_328 : decode cL_law 328 = .ok (.invokevirtual 39, 3) := by decide +kernel
theorem dL_law_331 : decode cL_law 331 = .ok (.aload_n 2, 1) := by decide +kernel
theorem dL_law_332 : decode cL_law 332 = .ok (.aload_n 0, 1) := by decide +kernel
theorem dL_law_333 : decode cL_law 333 = .ok (.iload_n 3, 1) := by decide +kernel
theorem dL_law_334 : decode cL_law 334 = .ok (.iconst 1, 1) := by decide +kernel
theorem dL_law_335 : decode cL_law 335 = .ok (.iadd, 1) := by decide +kernel
theorem dL_law_336 : decode cL_law 336 = .ok (.iaload, 1) := by decide +kernel
theorem dL_law_337 : decode cL_law 337 = .ok (.invokevirtual 42, 3) := by decide +kernel
theorem dL_law_340 : decode cL_law 340 = .ok (.if_icmp .eq 501, 3) := by decide +kernel
theorem dL_law_343 : decode cL_law 343 = .ok (.iconst 0, 1) := by decide +kernel
theorem dL_law_344 : decode cL_law 344 = .ok (.ireturn, 1) := by decide +kernel
theorem dL_law_345 : decode cL_law 345 = .ok (.aload_n 1, 1) := by decide +kernel
theorem dL_law_346 : decode cL_law 346 = .ok (.invokevirtual 43, 3) := by decide +kernel
theorem dL_law_349 : decode cL_law 349 = .ok (.aload_n 2, 1) := by decide +kernel
theorem dL_law_350 : decode cL_law 350 = .ok (.invokevirtual 47, 3) := by decide +kernel
theorem dL_law_353 : decode cL_law 353 = .ok (.if_icmp .eq 488, 3) := by decide +kernel
theorem dL_law_356 : decode cL_law 356 = .ok (.iconst 0, 1) := by decide +kernel
theorem dL_law_357 : decode cL_law 357 = .ok (.ireturn, 1) := by decide +kernel
theorem dL_law_358 : decode cL_law 358 = .ok (.aload_n 1, 1) := by decide +kernel
theorem dL_law_359 : decode cL_law 359 = .ok (.invokevirtual 48, 3) := by decide +kernel
theorem dL_law_362 : decode cL_law 362 = .ok (.aload_n 2, 1) := by decide +kernel
theorem dL_law_363 : decode cL_law 363 = .ok (.invokevirtual 51, 3) := by decide +kernel
theorem dL_law_366 : decode cL_law 366 = .ok (.if_icmp .eq 475, 3) := by decide +kernel
theorem dL_law_369 : decode cL_law 369 = .ok (.iconst 0, 1) := by decide +kernel
theorem dL_law_370 : decode cL_law 370 = .ok (.ireturn, 1) := by decide +kernel
theorem dL_law_371 : decode cL_law 371 = .ok (.aload_n 1, 1) := by decide +kernel
theorem dL_law_372 : decode cL_law 372 = .ok (.invokevirtual 52, 3) := by decide +kernel
theorem dL_law_375 : decode cL_law 375 = .ok (.aload_n 2, 1) := by decide +kernel
theorem dL_law_376 : decode cL_law 376 = .ok (.invokevirtual 55, 3) := by decide +kernel
theorem dL_law_379 : decode cL_law 379 = .ok (.if_icmp .eq 462, 3) := by decide +kernel
theorem dL_law_382 : decode cL_law 382 = .ok (.iconst 0, 1) := by decide +kernel
theorem dL_law_383 : decode cL_law 383 = .ok (.ireturn, 1) := by decide +kernel
theorem dL_law_384 : decode cL_law 384 = .ok (.aload_n 1, 1) := by decide +kernel
theorem dL_law_385 : decode cL_law 385 = .ok (.aload_n 0, 1) := by decide +kernel
theorem dL_law_386 : decode cL_law 386 = .ok (.iload_n 3, 1) := by decide +kernel
theorem dL_law_387 : decode cL_law 387 = .ok (.iconst 1, 1) := by decide +kernel
theorem dL_law_388 : decode cL_law 388 = .ok (.iadd, 1) := by decide +kernel
theorem dL_law_389 : decode cL_law 389 = .ok (.iaload, 1) := by decide +kernel
theorem dL_law_390 : decode cL_law 390 = .ok (.aload_n 0, 1) := by decide +kernel
theorem dL_law_391 : decode cL_law 391 = .ok (.iload_n 3, 1) := by decide +kernel
theorem dL_law_392 : decode cL_law 392 = .ok (.iconst 2, 1) := by decide +kernel
theorem dL_law_393 : decode cL_law 393 = .ok (.iadd, 1) := by decide +kernel
theorem dL_law_394 : decode cL_law 394 = .ok (.iaload, 1) := by decide +kernel
theorem dL_law_395 : decode cL_law 395 = .ok (.invokevirtual 56, 3) := by decide +kernel
theorem dL_law_398 : decode cL_law 398 = .ok (.aload_n 2, 1) := by decide +kernel
theorem dL_law_399 : decode cL_law 399 = .ok (.aload_n 0, 1) := by decide +kernel
theorem dL_law_400 : decode cL_law 400 = .ok (.iload_n 3, 1) := by decide +kernel
theorem dL_law_401 : decode cL_law 401 = .ok (.iconst 1, 1) := by decide +kernel
theorem dL_law_402 : decode cL_law 402 = .ok (.iadd, 1) := by decide +kernel
theorem dL_law_403 : decode cL_law 403 = .ok (.iaload, 1) := by decide +kernel
theorem dL_law_404 : decode cL_law 404 = .ok (.aload_n 0, 1) := by decide +kernel
theorem dL_law_405 : decode cL_law 405 = .ok (.iload_n 3, 1) := by decide +kernel
theorem dL_law_406 : decode cL_law 406 = .ok (.iconst 2, 1) := by decide +kernel
theorem dL_law_407 : decode cL_law 407 = .ok (.iadd, 1) := by decide +kernel
theorem dL_law_408 : decode cL_law 408 = .ok (.iaload, 1) := by decide +kernel
theorem dL_law_409 : decode cL_law 409 = .ok (.invokevirtual 59, 3) := by decide +kernel
theorem dL_law_412 : decode cL_law 412 = .ok (.if_icmp .eq 429, 3) := by decide +kernel
theorem dL_law_415 : decode cL_law 415 = .ok (.iconst 0, 1) := by decide +kernel
theorem dL_law_416 : decode cL_law 416 = .ok (.ireturn, 1) := by decide +kernel
theorem dL_law_417 : decode cL_law 417 = .ok (.aload_n 1, 1) := by decide +kernel
theorem dL_law_418 : decode cL_law 418 = .ok (.aload_n 0, 1) := by decide +kernel
theorem dL_law_419 : decode cL_law 419 = .ok (.iload_n 3, 1) := by decide +kernel
theorem dL_law_420 : decode cL_law 420 = .ok (.iconst 1, 1) := by decide +kernel
theorem dL_law_421 : decode cL_law 421 = .ok (.iadd, 1) := by decide +kernel
theorem dL_law_422 : decode cL_law 422 = .ok (.iaload, 1) := by decide +kernel
theorem dL_law_423 : decode cL_law 423 = .ok (.aload_n 0, 1) := by decide +kernel
theorem dL_law_424 : decode cL_law 424 = .ok (.iload_n 3, 1) := by decide +kernel
theorem dL_law_425 : decode cL_law 425 = .ok (.iconst 2, 1) := by decide +kernel
theorem dL_law_426 : decode cL_law 426 = .ok (.iadd, 1) := by decide +kernel
theorem dL_law_427 : decode cL_law 427 = .ok (.iaload, 1) := by decide +kernel
theorem dL_law_428 : decode cL_law 428 = .ok (.invokevirtual 60, 3) := by decide +kernel
theorem dL_law_431 : decode cL_law 431 = .ok (.aload_n 2, 1) := by decide +kernel
theorem dL_law_432 : decode cL_law 432 = .ok (.aload_n 0, 1) := by decide +kernel
theorem dL_law_433 : decode cL_law 433 = .ok (.iload_n 3, 1) := by decide +kernel
theorem dL_law_434 : decode cL_law 434 = .ok (.iconst 1, 1) := by decide +kernel
theorem dL_law_435 : decode cL_law 435 = .ok (.iadd, 1) := by decide +kernel
theorem dL_law_436 : decode cL_law 436 = .ok (.iaload, 1) := by decide +kernel
theorem dL_law_437 : decode cL_law 437 = .ok (.aload_n 0, 1) := by decide +kernel
theorem dL_law_438 : decode cL_law 438 = .ok (.iload_n 3, 1) := by decide +kernel
theorem dL_law_439 : decode cL_law 439 = .ok (.iconst 2, 1) := by decide +kernel
theorem dL_law_440 : decode cL_law 440 = .ok (.iadd, 1) := by decide +kernel
theorem dL_law_441 : decode cL_law 441 = .ok (.iaload, 1) := by decide +kernel
theorem dL_law_442 : decode cL_law 442 = .ok (.invokevirtual 63, 3) := by decide +kernel
theorem dL_law_445 : decode cL_law 445 = .ok (.if_icmp .eq 396, 3) := by decide +kernel
theorem dL_law_448 : decode cL_law 448 = .ok (.iconst 0, 1) := by decide +kernel
theorem dL_law_449 : decode cL_law 449 = .ok (.ireturn, 1) := by decide +kernel
theorem dL_law_450 : decode cL_law 450 = .ok (.aload_n 1, 1) := by decide +kernel
theorem dL_law_451 : decode cL_law 451 = .ok (.aload_n 0, 1) := by decide +kernel
theorem dL_law_452 : decode cL_law 452 = .ok (.iload_n 3, 1) := by decide +kernel
theorem dL_law_453 : decode cL_law 453 = .ok (.iconst 1, 1) := by decide +kernel
theorem dL_law_454 : decode cL_law 454 = .ok (.iadd, 1) := by decide +kernel
theorem dL_law_455 : decode cL_law 455 = .ok (.iaload, 1) := by decide +kernel
theorem dL_law_456 : decode cL_law 456 = .ok (.aload_n 0, 1) := by decide +kernel
theorem dL_law_457 : decode cL_law 457 = .ok (.iload_n 3, 1) := by decide +kernel
theorem dL_law_458 : decode cL_law 458 = .ok (.iconst 2, 1) := by decide +kernel
theorem dL_law_459 : decode cL_law 459 = .ok (.iadd, 1) := by decide +kernel
theorem dL_law_460 : decode cL_law 460 = .ok (.iaload, 1) := by decide +kernel
theorem dL_law_461 : decode cL_law 461 = .ok (.invokevirtual 64, 3) := by decide +kernel
theorem dL_law_464 : decode cL_law 464 = .ok (.aload_n 2, 1) := by decide +kernel
theorem dL_law_465 : decode cL_law 465 = .ok (.aload_n 0, 1) := by decide +kernel
theorem dL_law_466 : decode cL_law 466 = .ok (.iload_n 3, 1) := by decide +kernel
theorem dL_law_467 : decode cL_law 467 = .ok (.iconst 1, 1) := by decide +kernel
theorem dL_law_468 : decode cL_law 468 = .ok (.iadd, 1) := by decide +kernel
theorem dL_law_469 : decode cL_law 469 = .ok (.iaload, 1) := by decide +kernel
theorem dL_law_470 : decode cL_law 470 = .ok (.aload_n 0, 1) := by decide +kernel
theorem dL_law_471 : decode cL_law 471 = .ok (.iload_n 3, 1) := by decide +kernel
theorem dL_law_472 : decode cL_law 472 = .ok (.iconst 2, 1) := by decide +kernel
theorem dL_law_473 : decode cL_law 473 = .ok (.iadd, 1) := by decide +kernel
theorem dL_law_474 : decode cL_law 474 = .ok (.iaload, 1) := by decide +kernel
theorem dL_law_475 : decode cL_law 475 = .ok (.invokevirtual 67, 3) := by decide +kernel
theorem dL_law_478 : decode cL_law 478 = .ok (.if_icmp .eq 363, 3) := by decide +kernel
theorem dL_law_481 : decode cL_law 481 = .ok (.iconst 0, 1) := by decide +kernel
theorem dL_law_482 : decode cL_law 482 = .ok (.ireturn, 1) := by decide +kernel
theorem dL_law_483 : decode cL_law 483 = .ok (.aload_n 1, 1) := by decide +kernel
theorem dL_law_484 : decode cL_law 484 = .ok (.aload_n 0, 1) := by decide +kernel
theorem dL_law_485 : decode cL_law 485 = .ok (.iload_n 3, 1) := by decide +kernel
theorem dL_law_486 : decode cL_law 486 = .ok (.iconst 1, 1) := by decide +kernel
theorem dL_law_487 : decode cL_law 487 = .ok (.iadd, 1) := by decide +kernel
theorem dL_law_488 : decode cL_law 488 = .ok (.iaload, 1) := by decide +kernel
theorem dL_law_489 : decode cL_law 489 = .ok (.invokevirtual 68, 3) := by decide +kernel
theorem dL_law_492 : decode cL_law 492 = .ok (.aload_n 2, 1) := by decide +kernel
theorem dL_law_493 : decode cL_law 493 = .ok (.aload_n 0, 1) := by decide +kernel
theorem dL_law_494 : decode cL_law 494 = .ok (.iload_n 3, 1) := by decide +kernel
theorem dL_law_495 : decode cL_law 495 = .ok (.iconst 1, 1) := by decide +kernel
theorem dL_law_496 : decode cL_law 496 = .ok (.iadd, 1) := by decide +kernel
theorem dL_law_497 : decode cL_law 497 = .ok (.iaload, 1) := by decide +kernel
theorem dL_law_498 : decode cL_law 498 = .ok (.invokevirtual 71, 3) := by decide +kernel
theorem dL_law_501 : decode cL_law 501 = .ok (.if_icmp .eq 340, 3) := by decide +kernel
theorem dL_law_504 : decode cL_law 504 = .ok (.iconst 0, 1) := by decide +kernel
theorem dL_law_505 : decode cL_law 505 = .ok (.ireturn, 1) := by decide +kernel
theorem dL_law_506 : decode cL_law 506 = .ok (.aload_n 1, 1) := by decide +kernel
theorem dL_law_507 : decode cL_law 507 = .ok (.aload_n 0, 1) := by decide +kernel
theorem dL_law_508 : decode cL_law 508 = .ok (.iload_n 3, 1) := by decide +kernel
theorem dL_law_509 : decode cL_law 509 = .ok (.iconst 1, 1) := by decide +kernel
theorem dL_law_510 : decode cL_law 510 = .ok (.iadd, 1) := by decide +kernel
theorem dL_law_511 : decode cL_law 511 = .ok (.iaload, 1) := by decide +kernel
theorem dL_law_512 : decode cL_law 512 = .ok (.aload_n 0, 1) := by decide +kernel
theorem dL_law_513 : decode cL_law 513 = .ok (.iload_n 3, 1) := by decide +kernel
theorem dL_law_514 : decode cL_law 514 = .ok (.iconst 2, 1) := by decide +kernel
theorem dL_law_515 : decode cL_law 515 = .ok (.iadd, 1) := by decide +kernel
theorem dL_law_516 : decode cL_law 516 = .ok (.iaload, 1) := by decide +kernel
theorem dL_law_517 : decode cL_law 517 = .ok (.invokevirtual 72, 3) := by decide +kernel
theorem dL_law_520 : decode cL_law 520 = .ok (.aload_n 2, 1) := by decide +kernel
theorem dL_law_521 : decode cL_law 521 = .ok (.aload_n 0, 1) := by decide +kernel
theorem dL_law_522 : decode cL_law 522 = .ok (.iload_n 3, 1) := by decide +kernel
theorem dL_law_523 : decode cL_law 523 = .ok (.iconst 1, 1) := by decide +kernel
theorem dL_law_524 : decode cL_law 524 = .ok (.iadd, 1) := by decide +kernel
theorem dL_law_525 : decode cL_law 525 = .ok (.iaload, 1) := by decide +kernel
theorem dL_law_526 : decode cL_law 526 = .ok (.aload_n 0, 1) := by decide +kernel
theorem dL_law_527 : decode cL_law 527 = .ok (.iload_n 3, 1) := by decide +kernel
theorem dL_law_528 : decode cL_law 528 = .ok (.iconst 2, 1) := by decide +kernel
theorem dL_law_529 : decode cL_law 529 = .ok (.iadd, 1) := by decide +kernel
theorem dL_law_530 : decode cL_law 530 = .ok (.iaload, 1) := by decide +kernel
theorem dL_law_531 : decode cL_law 531 = .ok (.invokevirtual 75, 3) := by decide +kernel
theorem dL_law_534 : decode cL_law 534 = .ok (.if_icmp .eq 307, 3) := by decide +kernel
theorem dL_law_537 : decode cL_law 537 = .ok (.iconst 0, 1) := by decide +kernel
theorem dL_law_538 : decode cL_law 538 = .ok (.ireturn, 1) := by decide +kernel
theorem dL_law_539 : decode cL_law 539 = .ok (.aload_n 1, 1) := by decide +kernel
theorem dL_law_540 : decode cL_law 540 = .ok (.aload_n 0, 1) := by decide +kernel
theorem dL_law_541 : decode cL_law 541 = .ok (.iload_n 3, 1) := by decide +kernel
theorem dL_law_542 : decode cL_law 542 = .ok (.iconst 1, 1) := by decide +kernel
theorem dL_law_543 : decode cL_law 543 = .ok (.iadd, 1) := by decide +kernel
theorem dL_law_544 : decode cL_law 544 = .ok (.iaload, 1) := by decide +kernel
theorem dL_law_545 : decode cL_law 545 = .ok (.invokevirtual 76, 3) := by decide +kernel
theorem dL_law_548 : decode cL_law 548 = .ok (.aload_n 2, 1) := by decide +kernel
theorem dL_law_549 : decode cL_law 549 = .ok (.aload_n 0, 1) := by decide +kernel
theorem dL_law_550 : decode cL_law 550 = .ok (.iload_n 3, 1) := by decide +kernel
theorem dL_law_551 : decode cL_law 551 = .ok (.iconst 1, 1) := by decide +kernel
theorem dL_law_552 : decode cL_law 552 = .ok (.iadd, 1) := by decide +kernel
theorem dL_law_553 : decode cL_law 553 = .ok (.iaload, 1) := by decide +kernel
theorem dL_law_554 : decode cL_law 554 = .ok (.invokevirtual 79, 3) := by decide +kernel
theorem dL_law_557 : decode cL_law 557 = .ok (.if_icmp .eq 284, 3) := by decide +kernel
theorem dL_law_560 : decode cL_law 560 = .ok (.iconst 0, 1) := by decide +kernel
theorem dL_law_561 : decode cL_law 561 = .ok (.ireturn, 1) := by decide +kernel
theorem dL_law_562 : decode cL_law 562 = .ok (.aload_n 1, 1) := by decide +kernel
theorem dL_law_563 : decode cL_law 563 = .ok (.aload_n 0, 1) := by decide +kernel
theorem dL_law_564 : decode cL_law 564 = .ok (.iload_n 3, 1) := by decide +kernel
theorem dL_law_565 : decode cL_law 565 = .ok (.iconst 1, 1) := by decide +kernel
theorem dL_law_566 : decode cL_law 566 = .ok (.iadd, 1) := by decide +kernel
theorem dL_law_567 : decode cL_law 567 = .ok (.iaload, 1) := by decide +kernel
theorem dL_law_568 : decode cL_law 568 = .ok (.invokevirtual 80, 3) := by decide +kernel
theorem dL_law_571 : decode cL_law 571 = .ok (.aload_n 2, 1) := by decide +kernel
theorem dL_law_572 : decode cL_law 572 = .ok (.aload_n 0, 1) := by decide +kernel
theorem dL_law_573 : decode cL_law 573 = .ok (.iload_n 3, 1) := by decide +kernel
theorem dL_law_574 : decode cL_law 574 = .ok (.iconst 1, 1) := by decide +kernel
theorem dL_law_575 : decode cL_law 575 = .ok (.iadd, 1) := by decide +kernel
theorem dL_law_576 : decode cL_law 576 = .ok (.iaload, 1) := by decide +kernel
theorem dL_law_577 : decode cL_law 577 = .ok (.invokevirtual 83, 3) := by decide +kernel
theorem dL_law_580 : decode cL_law 580 = .ok (.if_icmp .eq 261, 3) := by decide +kernel
theorem dL_law_583 : decode cL_law 583 = .ok (.iconst 0, 1) := by decide +kernel
theorem dL_law_584 : decode cL_law 584 = .ok (.ireturn, 1) := by decide +kernel
theorem dL_law_585 : decode cL_law 585 = .ok (.aload_n 1, 1) := by decide +kernel
theorem dL_law_586 : decode cL_law 586 = .ok (.aload_n 0, 1) := by decide +kernel
theorem dL_law_587 : decode cL_law 587 = .ok (.iload_n 3, 1) := by decide +kernel
theorem dL_law_588 : decode cL_law 588 = .ok (.iconst 1, 1) := by decide +kernel
theorem dL_law_589 : decode cL_law 589 = .ok (.iadd, 1) := by decide +kernel
theorem dL_law_590 : decode cL_law 590 = .ok (.iaload, 1) := by decide +kernel
theorem dL_law_591 : decode cL_law 591 = .ok (.invokevirtual 84, 3) := by decide +kernel
theorem dL_law_594 : decode cL_law 594 = .ok (.aload_n 2, 1) := by decide +kernel
theorem dL_law_595 : decode cL_law 595 = .ok (.aload_n 0, 1) := by decide +kernel
theorem dL_law_596 : decode cL_law 596 = .ok (.iload_n 3, 1) := by decide +kernel
theorem dL_law_597 : decode cL_law 597 = .ok (.iconst 1, 1) := by decide +kernel
theorem dL_law_598 : decode cL_law 598 = .ok (.iadd, 1) := by decide +kernel
theorem dL_law_599 : decode cL_law 599 = .ok (.iaload, 1) := by decide +kernel
theorem dL_law_600 : decode cL_law 600 = .ok (.invokevirtual 87, 3) := by decide +kernel
theorem dL_law_603 : decode cL_law 603 = .ok (.if_icmp .eq 238, 3) := by decide +kernel
theorem dL_law_606 : decode cL_law 606 = .ok (.iconst 0, 1) := by decide +kernel
theorem dL_law_607 : decode cL_law 607 = .ok (.ireturn, 1) := by decide +kernel
theorem dL_law_608 : decode cL_law 608 = .ok (.aload_n 1, 1) := by decide +kernel
theorem dL_law_609 : decode cL_law 609 = .ok (.aload_n 0, 1) := by decide +kernel
theorem dL_law_610 : decode cL_law 610 = .ok (.iload_n 3, 1) := by decide +kernel
theorem dL_law_611 : decode cL_law 611 = .ok (.iconst 1, 1) := by decide +kernel
theorem dL_law_612 : decode cL_law 612 = .ok (.iadd, 1) := by decide +kernel
theorem dL_law_613 : decode cL_law 613 = .ok (.iaload, 1) := by decide +kernel
theorem dL_law_614 : decode cL_law 614 = .ok (.invokevirtual 88, 3) := by decide +kernel
theorem dL_law_617 : decode cL_law 617 = .ok (.aload_n 2, 1) := by decide +kernel
theorem dL_law_618 : decode cL_law 618 = .ok (.aload_n 0, 1) := by decide +kernel
theorem dL_law_619 : decode cL_law 619 = .ok (.iload_n 3, 1) := by decide +kernel
theorem dL_law_620 : decode cL_law 620 = .ok (.iconst 1, 1) := by decide +kernel
theorem dL_law_621 : decode cL_law 621 = .ok (.iadd, 1) := by decide +kernel
theorem dL_law_622 : decode cL_law 622 = .ok (.iaload, 1) := by decide +kernel
theorem dL_law_623 : decode cL_law 623 = .ok (.invokevirtual 91, 3) := by decide +kernel
theorem dL_law_626 : decode cL_law 626 = .ok (.if_icmp .eq 215, 3) := by decide +kernel
theorem dL_law_629 : decode cL_law 629 = .ok (.iconst 0, 1) := by decide +kernel
theorem dL_law_630 : decode cL_law 630 = .ok (.ireturn, 1) := by decide +kernel
theorem dL_law_631 : decode cL_law 631 = .ok (.aload_n 1, 1) := by decide +kernel
theorem dL_law_632 : decode cL_law 632 = .ok (.aload_n 0, 1) := by decide +kernel
theorem dL_law_633 : decode cL_law 633 = .ok (.iload_n 3, 1) := by decide +kernel
theorem dL_law_634 : decode cL_law 634 = .ok (.iconst 1, 1) := by decide +kernel
theorem dL_law_635 : decode cL_law 635 = .ok (.iadd, 1) := by decide +kernel
theorem dL_law_636 : decode cL_law 636 = .ok (.iaload, 1) := by decide +kernel
theorem dL_law_637 : decode cL_law 637 = .ok (.invokevirtual 92, 3) := by decide +kernel
theorem dL_law_640 : decode cL_law 640 = .ok (.aload_n 2, 1) := by decide +kernel
theorem dL_law_641 : decode cL_law 641 = .ok (.aload_n 0, 1) := by decide +kernel
theorem dL_law_642 : decode cL_law 642 = .ok (.iload_n 3, 1) := by decide +kernel
theorem dL_law_643 : decode cL_law 643 = .ok (.iconst 1, 1) := by decide +kernel
theorem dL_law_644 : decode cL_law 644 = .ok (.iadd, 1) := by decide +kernel
theorem dL_law_645 : decode cL_law 645 = .ok (.iaload, 1) := by decide +kernel
theorem dL_law_646 : decode cL_law 646 = .ok (.invokevirtual 95, 3) := by decide +kernel
theorem dL_law_649 : decode cL_law 649 = .ok (.if_icmp .eq 192, 3) := by decide +kernel
theorem dL_law_652 : decode cL_law 652 = .ok (.iconst 0, 1) := by decide +kernel
theorem dL_law_653 : decode cL_law 653 = .ok (.ireturn, 1) := by decide +kernel
theorem dL_law_654 : decode cL_law 654 = .ok (.aload_n 1, 1) := by decide +kernel
theorem dL_law_655 : decode cL_law 655 = .ok (.invokevirtual 96, 3) := by decide +kernel
theorem dL_law_658 : decode cL_law 658 = .ok (.aload_n 2, 1) := by decide +kernel
theorem dL_law_659 : decode cL_law 659 = .ok (.invokevirtual 99, 3) := by decide +kernel
theorem dL_law_662 : decode cL_law 662 = .ok (.if_icmp .eq 179, 3) := by decide +kernel
theorem dL_law_665 : decode cL_law 665 = .ok (.iconst 0, 1) := by decide +kernel
theorem dL_law_666 : decode cL_law 666 = .ok (.ireturn, 1) := by decide +kernel
theorem dL_law_667 : decode cL_law 667 = .ok (.aload_n 1, 1) := by decide +kernel
theorem dL_law_668 : decode cL_law 668 = .ok (.aload_n 0, 1) := by decide +kernel
theorem dL_law_669 : decode cL_law 669 = .ok (.iload_n 3, 1) := by decide +kernel
theorem dL_law_670 : decode cL_law 670 = .ok (.iconst 1, 1) := by decide +kernel
theorem dL_law_671 : decode cL_law 671 = .ok (.iadd, 1) := by decide +kernel
theorem dL_law_672 : decode cL_law 672 = .ok (.iaload, 1) := by decide +kernel
theorem dL_law_673 : decode cL_law 673 = .ok (.invokevirtual 100, 3) := by decide +kernel
theorem dL_law_676 : decode cL_law 676 = .ok (.aload_n 2, 1) := by decide +kernel
theorem dL_law_677 : decode cL_law 677 = .ok (.aload_n 0, 1) := by decide +kernel
theorem dL_law_678 : decode cL_law 678 = .ok (.iload_n 3, 1) := by decide +kernel
theorem dL_law_679 : decode cL_law 679 = .ok (.iconst 1, 1) := by decide +kernel
theorem dL_law_680 : decode cL_law 680 = .ok (.iadd, 1) := by decide +kernel
theorem dL_law_681 : decode cL_law 681 = .ok (.iaload, 1) := by decide +kernel
theorem dL_law_682 : decode cL_law 682 = .ok (.invokevirtual 103, 3) := by decide +kernel
theorem dL_law_685 : decode cL_law 685 = .ok (.if_icmp .eq 156, 3) := by decide +kernel
theorem dL_law_688 : decode cL_law 688 = .ok (.iconst 0, 1) := by decide +kernel
theorem dL_law_689 : decode cL_law 689 = .ok (.ireturn, 1) := by decide +kernel
theorem dL_law_690 : decode cL_law 690 = .ok (.aload_n 1, 1) := by decide +kernel
theorem dL_law_691 : decode cL_law 691 = .ok (.aload_n 0, 1) := by decide +kernel
theorem dL_law_692 : decode cL_law 692 = .ok (.iload_n 3, 1) := by decide +kernel
theorem dL_law_693 : decode cL_law 693 = .ok (.iconst 1, 1) := by decide +kernel
theorem dL_law_694 : decode cL_law 694 = .ok (.iadd, 1) := by decide +kernel
theorem dL_law_695 : decode cL_law 695 = .ok (.iaload, 1) := by decide +kernel
theorem dL_law_696 : decode cL_law 696 = .ok (.i2l, 1) := by decide +kernel
theorem dL_law_697 : decode cL_law 697 = .ok (.bipush 32, 2) := by decide +kernel
theorem dL_law_699 : decode cL_law 699 = .ok (.lshl, 1) := by decide +kernel
theorem dL_law_700 : decode cL_law 700 = .ok (.aload_n 0, 1) := by decide +kernel
theorem dL_law_701 : decode cL_law 701 = .ok (.iload_n 3, 1) := by decide +kernel
theorem dL_law_702 : decode cL_law 702 = .ok (.iconst 2, 1) := by decide +kernel
theorem dL_law_703 : decode cL_law 703 = .ok (.iadd, 1) := by decide +kernel
theorem dL_law_704 : decode cL_law 704 = .ok (.iaload, 1) := by decide +kernel
theorem dL_law_705 : decode cL_law 705 = .ok (.i2l, 1) := by decide +kernel
theorem dL_law_706 : decode cL_law 706 = .ok (.ldc2_w 104, 3) := by decide +kernel
theorem dL_law_709 : decode cL_law 709 = .ok (.land, 1) := by decide +kernel
theorem dL_law_710 : decode cL_law 710 = .ok (.lor, 1) := by decide +kernel
theorem dL_law_711 : decode cL_law 711 = .ok (.invokevirtual 106, 3) := by decide +kernel
theorem dL_law_714 : decode cL_law 714 = .ok (.aload_n 2, 1) := by decide +kernel
theorem dL_law_715 : decode cL_law 715 = .ok (.aload_n 0, 1) := by decide +kernel
theorem dL_law_716 : decode cL_law 716 = .ok (.iload_n 3, 1) := by decide +kernel
theorem dL_law_717 : decode cL_law 717 = .ok (.iconst 1, 1) := by decide +kernel
theorem dL_law_718 : decode cL_law 718 = .ok (.iadd, 1) := by decide +kernel
theorem dL_law_719 : decode cL_law 719 = .ok (.iaload, 1) := by decide +kernel
theorem dL_law_720 : decode cL_law 720 = .ok (.i2l, 1) := by decide +kernel
theorem dL_law_721 : decode cL_law 721 = .ok (.bipush 32, 2) := by decide +kernel
theorem dL_law_723 : decode cL_law 723 = .ok (.lshl, 1) := by decide +kernel
theorem dL_law_724 : decode cL_law 724 = .ok (.aload_n 0, 1) := by decide +kernel
theorem dL_law_725 : decode cL_law 725 = .ok (.iload_n 3, 1) := by decide +kernel
theorem dL_law_726 : decode cL_law 726 = .ok (.iconst 2, 1) := by decide +kernel
theorem dL_law_727 : decode cL_law 727 = .ok (.iadd, 1) := by decide +kernel
theorem dL_law_728 : decode cL_law 728 = .ok (.iaload, 1) := by decide +kernel
theorem dL_law_729 : decode cL_law 729 = .ok (.i2l, 1) := by decide +kernel
theorem dL_law_730 : decode cL_law 730 = .ok (.ldc2_w 104, 3) := by decide +kernel
theorem dL_law_733 : decode cL_law 733 = .ok (.land, 1) := by decide +kernel
theorem dL_law_734 : decode cL_law 734 = .ok (.lor, 1) := by decide +kernel
theorem dL_law_735 : decode cL_law 735 = .ok (.invokevirtual 110, 3) := by decide +kernel
theorem dL_law_738 : decode cL_law 738 = .ok (.if_icmp .eq 103, 3) := by decide +kernel
theorem dL_law_741 : decode cL_law 741 = .ok (.iconst 0, 1) := by decide +kernel
theorem dL_law_742 : decode cL_law 742 = .ok (.ireturn, 1) := by decide +kernel
theorem dL_law_743 : decode cL_law 743 = .ok (.aload_n 1, 1) := by decide +kernel
theorem dL_law_744 : decode cL_law 744 = .ok (.invokevirtual 111, 3) := by decide +kernel
theorem dL_law_747 : decode cL_law 747 = .ok (.aload_n 2, 1) := by decide +kernel
theorem dL_law_748 : decode cL_law 748 = .ok (.invokevirtual 114, 3) := by decide +kernel
theorem dL_law_751 : decode cL_law 751 = .ok (.if_icmp .eq 90, 3) := by decide +kernel
theorem dL_law_754 : decode cL_law 754 = .ok (.iconst 0, 1) := by decide +kernel
theorem dL_law_755 : decode cL_law 755 = .ok (.ireturn, 1) := by decide +kernel
theorem dL_law_756 : decode cL_law 756 = .ok (.aload_n 1, 1) := by decide +kernel
theorem dL_law_757 : decode cL_law 757 = .ok (.invokevirtual 115, 3) := by decide +kernel
theorem dL_law_760 : decode cL_law 760 = .ok (.aload_n 2, 1) := by decide +kernel
theorem dL_law_761 : decode cL_law 761 = .ok (.invokevirtual 118, 3) := by decide +kernel
theorem dL_law_764 : decode cL_law 764 = .ok (.if_icmp .eq 77, 3) := by decide +kernel
theorem dL_law_767 : decode cL_law 767 = .ok (.iconst 0, 1) := by decide +kernel
theorem dL_law_768 : decode cL_law 768 = .ok (.ireturn, 1) := by decide +kernel
theorem dL_law_769 : decode cL_law 769 = .ok (.aload_n 1, 1) := by decide +kernel
theorem dL_law_770 : decode cL_law 770 = .ok (.invokevirtual 119, 3) := by decide +kernel
theorem dL_law_773 : decode cL_law 773 = .ok (.aload_n 2, 1) := by decide +kernel
theorem dL_law_774 : decode cL_law 774 = .ok (.invokevirtual 122, 3) := by decide +kernel
theorem dL_law_777 : decode cL_law 777 = .ok (.if_icmp .eq 64, 3) := by decide +kernel
theorem dL_law_780 : decode cL_law 780 = .ok (.iconst 0, 1) := by decide +kernel
theorem dL_law_781 : decode cL_law 781 = .ok (.ireturn, 1) := by decide +kernel
theorem dL_law_782 : decode cL_law 782 = .ok (.aload_n 1, 1) := by decide +kernel
theorem dL_law_783 : decode cL_law 783 = .ok (.invokevirtual 123, 3) := by decide +kernel
theorem dL_law_786 : decode cL_law 786 = .ok (.aload_n 2, 1) := by decide +kernel
theorem dL_law_787 : decode cL_law 787 = .ok (.invokevirtual 126, 3) := by decide +kernel
theorem dL_law_790 : decode cL_law 790 = .ok (.if_icmp .eq 51, 3) := by decide +kernel
theorem dL_law_793 : decode cL_law 793 = .ok (.iconst 0, 1) := by decide +kernel
theorem dL_law_794 : decode cL_law 794 = .ok (.ireturn, 1) := by decide +kernel
theorem dL_law_795 : decode cL_law 795 = .ok (.aload_n 1, 1) := by decide +kernel
theorem dL_law_796 : decode cL_law 796 = .ok (.aload_n 0, 1) := by decide +kernel
theorem dL_law_797 : decode cL_law 797 = .ok (.iload_n 3, 1) := by decide +kernel
theorem dL_law_798 : decode cL_law 798 = .ok (.iconst 1, 1) := by decide +kernel
theorem dL_law_799 : decode cL_law 799 = .ok (.iadd, 1) := by decide +kernel
theorem dL_law_800 : decode cL_law 800 = .ok (.iaload, 1) := by decide +kernel
theorem dL_law_801 : decode cL_law 801 = .ok (.invokevirtual 127, 3) := by decide +kernel
theorem dL_law_804 : decode cL_law 804 = .ok (.aload_n 2, 1) := by decide +kernel
theorem dL_law_805 : decode cL_law 805 = .ok (.aload_n 0, 1) := by decide +kernel
theorem dL_law_806 : decode cL_law 806 = .ok (.iload_n 3, 1) := by decide +kernel
theorem dL_law_807 : decode cL_law 807 = .ok (.iconst 1, 1) := by decide +kernel
theorem dL_law_808 : decode cL_law 808 = .ok (.iadd, 1) := by decide +kernel
theorem dL_law_809 : decode cL_law 809 = .ok (.iaload, 1) := by decide +kernel
theorem dL_law_810 : decode cL_law 810 = .ok (.invokevirtual 130, 3) := by decide +kernel
theorem dL_law_813 : decode cL_law 813 = .ok (.if_icmp .eq 28, 3) := by decide +kernel
theorem dL_law_816 : decode cL_law 816 = .ok (.iconst 0, 1) := by decide +kernel
theorem dL_law_817 : decode cL_law 817 = .ok (.ireturn, 1) := by decide +kernel
theorem dL_law_818 : decode cL_law 818 = .ok (.aload_n 1, 1) := by decide +kernel
theorem dL_law_819 : decode cL_law 819 = .ok (.aload_n 0, 1) := by decide +kernel
theorem dL_law_820 : decode cL_law 820 = .ok (.iload_n 3, 1) := by decide +kernel
theorem dL_law_821 : decode cL_law 821 = .ok (.iconst 1, 1) := by decide +kernel
theorem dL_law_822 : decode cL_law 822 = .ok (.iadd, 1) := by decide +kernel
theorem dL_law_823 : decode cL_law 823 = .ok (.iaload, 1) := by decide +kernel
theorem dL_law_824 : decode cL_law 824 = .ok (.invokevirtual 131, 3) := by decide +kernel
theorem dL_law_827 : decode cL_law 827 = .ok (.aload_n 2, 1) := by decide +kernel
theorem dL_law_828 : decode cL_law 828 = .ok (.aload_n 0, 1) := by decide +kernel
theorem dL_law_829 : decode cL_law 829 = .ok (.iload_n 3, 1) := by decide +kernel
theorem dL_law_830 : decode cL_law 830 = .ok (.iconst 1, 1) := by decide +kernel
theorem dL_law_831 : decode cL_law 831 = .ok (.iadd, 1) := by decide +kernel
theorem dL_law_832 : decode cL_law 832 = .ok (.iaload, 1) := by decide +kernel
theorem dL_law_833 : decode cL_law 833 = .ok (.invokevirtual 134, 3) := by decide +kernel
theorem dL_law_836 : decode cL_law 836 = .ok (.if_icmp .eq 5, 3) := by decide +kernel
theorem dL_law_839 : decode cL_law 839 = .ok (.iconst 0, 1) := by decide +kernel
theorem dL_law_840 : decode cL_law 840 = .ok (.ireturn, 1) := by decide +kernel
theorem dL_law_841 : decode cL_law 841 = .ok (.iinc 3 3, 3) := by decide +kernel
theorem dL_law_844 : decode cL_law 844 = .ok (.goto (-826), 3) := by decide +kernel
theorem dL_law_847 : decode cL_law 847 = .ok (.iconst 1, 1) := by decide +kernel
theorem dL_law_848 : decode cL_law 848 = .ok (.ireturn, 1) := by decide +kernel
end
section
/-! ===== pure words: a method of the program as a function in Option (none: an index outside, a divisor 0, or no end in the loop's count) ===== -/
abbrev zHV : Type := Nat → Nat → Int32
def zs (v : zHV) (i k : Nat) (x : Int32) : zHV := fun a b => if a = i then (if b = k then x else v a b) else v a b
def zr (v : zHV) (i : Nat) (f : Nat → Int32) : zHV := fun a => if a = i then f else v a
def zq (v : zHV) (i n : Nat) (w : zHV) : zHV := fun a => if i ≤ a then (if a < i + n then w (a - i) else v a) else v a
def zh {α : Type} (v : Nat → α) (i : Nat) : Nat → α := fun a => v (i + a)
def zlet {α β : Type} (a : α) (K : α → Option β) : Option β := K a
def zcl {α β : Type} (d : Option α) (K : α → Option β) : Option β := match d with
  | none => none
  | some a => K a
def zcl2 {α β γ : Type} (d : Option (α × β)) (K : α → β → Option γ) : Option γ := match d with
  | none => none
  | some a => K a.1 a.2
def zld {γ : Type} (n : Nat) (f : Nat → Int32) (i : Int32) (K : Int32 → Option γ) : Option γ := if 0 ≤ i.toInt ∧ i.toInt < n then K (f i.toNatClampNeg) else none
def zst {γ : Type} (n : Nat) (f : Nat → Int32) (i x : Int32) (K : (Nat → Int32) → Option γ) : Option γ := if 0 ≤ i.toInt ∧ i.toInt < n then K (upd f i.toNatClampNeg x) else none
def zdv {γ : Type} (x y : Int32) (K : Int32 → Option γ) : Option γ := if y = 0 then none else K (x / y)
def zrm {γ : Type} (x y : Int32) (K : Int32 → Option γ) : Option γ := if y = 0 then none else K (x - x / y * y)
theorem zcl_some {α β : Type} {d : Option α} {K : α → Option β} {r : β} (h : zcl d K = some r) : ∃ a, d = some a ∧ K a = some r := by
  cases d with
  | none => cases h
  | some a => exact ⟨a, rfl, h⟩
theorem zcl2_some {α β γ : Type} {d : Option (α × β)} {K : α → β → Option γ} {r : γ} (h : zcl2 d K = some r) : ∃ a b, d = some (a, b) ∧ K a b = some r := by
  cases d with
  | none => cases h
  | some a => exact ⟨a.1, a.2, rfl, h⟩
theorem zld_some {γ : Type} {n : Nat} {f : Nat → Int32} {i : Int32} {K : Int32 → Option γ} {r : γ} (h : zld n f i K = some r) : vp_in i n ∧ K (f i.toNatClampNeg) = some r := by
  unfold zld at h
  by_cases c : 0 ≤ i.toInt ∧ i.toInt < n
  · rw [if_pos c] at h; exact ⟨vp_in_iff.mpr c, h⟩
  · rw [if_neg c] at h; cases h
theorem zst_some {γ : Type} {n : Nat} {f : Nat → Int32} {i x : Int32} {K : (Nat → Int32) → Option γ} {r : γ} (h : zst n f i x K = some r) : vp_in i n ∧ K (upd f i.toNatClampNeg x) = some r := by
  unfold zst at h
  by_cases c : 0 ≤ i.toInt ∧ i.toInt < n
  · rw [if_pos c] at h; exact ⟨vp_in_iff.mpr c, h⟩
  · rw [if_neg c] at h; cases h
theorem zdv_some {γ : Type} {x y : Int32} {K : Int32 → Option γ} {r : γ} (h : zdv x y K = some r) : ¬ y = 0 ∧ K (x / y) = some r := by
  unfold zdv at h
  by_cases c : y = 0
  · rw [if_pos c] at h; cases h
  · rw [if_neg c] at h; exact ⟨c, h⟩
theorem zrm_some {γ : Type} {x y : Int32} {K : Int32 → Option γ} {r : γ} (h : zrm x y K = some r) : ¬ y = 0 ∧ K (x - x / y * y) = some r := by
  unfold zrm at h
  by_cases c : y = 0
  · rw [if_pos c] at h; cases h
  · rw [if_neg c] at h; exact ⟨c, h⟩
/-! ===== the surroundings ===== -/
/-- class numbers and slots; the class of int rows; the class of rows of houses; where LEAST, MOST, FIRST lie -/
abbrev zE : Type := va_G × ClassId × ClassId × (Nat → Nat)
abbrev zTys (E : zE) : List (ClassId × FieldType) := [(E.2.1, .int), (E.2.2.1, .object RX2)]
def zLEAST : Nat → Int32 := fun j => match j with | 0 => 1 | 1 => 20 | 2 => 1 | 3 => 0 | 4 => 1 | _ => 1
def zMOST : Nat → Int32 := fun j => match j with | 0 => 50 | 1 => 900 | 2 => 300 | 3 => 9 | 4 => 9 | _ => 900
def zFIRST : Nat → Int32 := fun j => match j with | 0 => 10 | 1 => 200 | 2 => 60 | 3 => 2 | 4 => 3 | _ => 50
def zNest : List Cond := [.fieldLinkNest RX7 101 RX2 "time" "I" RX7, .fieldLinkNest RX7 109 RX2 "seats" "LApplauseTallies$Seats;" RX7, .fieldLinkNest RX7 173 RX2 "nights" "I" RX7, .fieldLinkNest RX7 92 RX2 "encores" "LApplauseTallies$Encores;" RX7, .fieldLinkNest RX2 104 RX0 "pieces" "LApplauseTallies$Row;" RX7, .fieldLinkNest RX2 158 RX6 "early" "LApplauseTallies$Row;" RX7, .fieldLinkNest RX2 161 RX6 "clapsTonight" "LApplauseTallies$Row;" RX7, .fieldLinkNest RX2 167 RX6 "clapsSoFar" "LApplauseTallies$Row;" RX7, .fieldLinkNest RX2 173 RX0 "owedCount" "I" RX7, .fieldLinkNest RX2 176 RX0 "played" "LApplauseTallies$Row;" RX7, .fieldLinkNest RX2 183 RX0 "lapsed" "LApplauseTallies$Row;" RX7, .fieldLinkNest RX2 192 RX0 "since" "LApplauseTallies$Row;" RX7, .fieldLinkNest RX2 44 RX7 "FIRST" "[I" RX7, .fieldLinkNest RX2 78 RX7 "LEAST" "[I" RX7, .fieldLinkNest RX2 81 RX7 "MOST" "[I" RX7, .fieldLinkNest RX2 92 RX6 "loudness" "LApplauseTallies$Row;" RX7, .fieldLinkNest RX2 95 RX6 "paid" "I" RX7, .methodLinkNest RX7 29 yX4_init RX7, .methodLinkNest RX0 54 yX7_isPerformer RX7, .methodLinkNest RX2 131 yX7_afterSecond RX7, .methodLinkNest RX2 29 yX0_init RX7, .methodLinkNest RX2 88 yX7_isSeat RX7, .methodLinkNest RX2 98 yX7_isPerformer RX7]
def zIsNest : Cond → Bool := fun w => match w with | .fieldLinkNest .. => true | .methodLinkNest .. => true | _ => false
theorem zNest_is : ∀ w ∈ zNest, zIsNest w = true := by decide +kernel
theorem zNest_in : ∀ w ∈ zNest, w ∈ lw_tbl := zz_in [176, 169, 178, 171, 145, 102, 104, 106, 147, 141, 143, 139, 161, 315, 317, 100, 110, 226, 504, 409, 131, 336, 355] (by decide +kernel)
def zStat (E : zE) (A : Nat → Prop) (U : State) (H : Heap) : Prop :=
  (va_Z RX7 "LEAST" "[I" (.ref (E.2.2.2 0)) A U H ∧ va_T .int (E.2.2.2 0) 6 (fun j => .int (zLEAST j)) A U H) ∧
  (va_Z RX7 "MOST" "[I" (.ref (E.2.2.2 1)) A U H ∧ va_T .int (E.2.2.2 1) 6 (fun j => .int (zMOST j)) A U H) ∧
  (va_Z RX7 "FIRST" "[I" (.ref (E.2.2.2 2)) A U H ∧ va_T .int (E.2.2.2 2) 6 (fun j => .int (zFIRST j)) A U H)
/-- what every method is told of its surroundings -/
def zK (E : zE) (A : Nat → Prop) (U : State) (H : Heap) : Prop :=
  va_K E.1 vwCl (zTys E) U ∧ (∀ w ∈ zNest, va_Nw w U) ∧ va_AO RX2 U ∧ zStat E A U H
theorem zNest_warm {w : Cond} (hw : w ∈ zNest) {s U : State} (hW : s.WarmedH U.vm) (h : va_Nw w s) : va_Nw w U := by
  have h1 := zNest_is w hw
  cases w <;> first | (cases h1; done) | exact va_Nw.warmF hW h | exact va_Nw.warmM hW h
theorem zNest_same {w : Cond} (hw : w ∈ zNest) {u U : State} (hv : u.vm = U.vm) (h : va_Nw w u) : va_Nw w U := by
  have h1 := zNest_is w hw
  cases w <;> first | (cases h1; done) | exact va_Nw.same rfl hv h
theorem zStat_down {E : zE} {A B : Nat → Prop} {s U : State} {H0 H : Heap} {locs : List Loc} (h : zStat E A s H0) (hvm : s.vm.Alike U.vm) (hS : va_S A H0 H locs) (hB : ∀ q, B q → A q) : zStat E B U H := by
  obtain ⟨⟨a1, a2⟩, ⟨b1, b2⟩, c1, c2⟩ := h
  exact ⟨⟨((a1.moved hvm).kept hS.2.1).narrow hB, ((a2.moved hvm).kept hS.2.1).narrow hB⟩, ⟨((b1.moved hvm).kept hS.2.1).narrow hB, ((b2.moved hvm).kept hS.2.1).narrow hB⟩, ((c1.moved hvm).kept hS.2.1).narrow hB, ((c2.moved hvm).kept hS.2.1).narrow hB⟩
theorem zK_down {E : zE} {A B : Nat → Prop} {s U : State} {H0 H : Heap} {locs : List Loc} (h : zK E A s H0) (hW : s.WarmedH U.vm) (hS : va_S A H0 H locs) (hB : ∀ q, B q → A q) : zK E B U H :=
  ⟨va_K.moved hW.alike h.1, fun w hw => zNest_warm hw hW (h.2.1 w hw), va_AO.moved hW.alike h.2.2.1, zStat_down h.2.2.2 hW.alike hS hB⟩
theorem zK_calling {E : zE} {A : Nat → Prop} {U : State} {H : Heap} (g : JFrame) (mk : MethodId) (a : Array Value) (h : zK E A U H) : zK E A (U.calling g mk a) H :=
  ⟨va_K.moved (u := U) (U := U.calling g mk a) (Vm.Alike.refl U.vm) h.1, fun w hw => zNest_same (u := U) (U := U.calling g mk a) hw rfl (h.2.1 w hw), va_AO.moved (u := U) (U := U.calling g mk a) (Vm.Alike.refl U.vm) h.2.2.1, zStat_down (s := U) (U := U.calling g mk a) (H0 := H) (locs := []) h.2.2.2 (Vm.Alike.refl U.vm) va_S.rf (fun _ h => h)⟩
/-- the world of a method as it runs -/
def zW (E : zE) (A : Nat → Prop) (s : State) (ws : va_W) (H : Heap) (locs : List Loc) : Prop := va_P E.1 vwCl ws H ∧ va_D A ws ∧ va_S A s.heap H locs
theorem zP_perm {D : va_G} {cl : List vw_C} {w1 w2 : va_W} {H : Heap} (hp : w1.Perm w2) (h : va_P D cl w1 H) : va_P D cl w2 H := fun k q hk => by
  obtain ⟨i, hi⟩ := List.getElem?_of_mem (hp.mem_iff.mpr (List.mem_of_getElem? hk))
  exact h i q hi
theorem zD_iff {A : Nat → Prop} {ws : va_W} : va_D A ws ↔ (ws.map Prod.fst).Nodup ∧ ∀ q ∈ ws, A q.1 := by
  constructor
  · intro h
    refine ⟨?_, fun q hq => ?_⟩
    · rw [List.Nodup, List.pairwise_map, List.pairwise_iff_getElem]
      intro i j hi hj hij e
      exact absurd (h.1 i j _ _ (List.getElem?_eq_getElem hi) (List.getElem?_eq_getElem hj) e) (by omega)
    · obtain ⟨i, hi⟩ := List.getElem?_of_mem hq
      exact h.2 i q hi
  · intro h
    refine ⟨fun i j p q hp hq e => ?_, fun k q hk => h.2 q (List.mem_of_getElem? hk)⟩
    have hn := h.1
    rw [List.Nodup, List.pairwise_map, List.pairwise_iff_getElem] at hn
    obtain ⟨hi, rfl⟩ := List.getElem?_eq_some_iff.mp hp
    obtain ⟨hj, rfl⟩ := List.getElem?_eq_some_iff.mp hq
    rcases Nat.lt_trichotomy i j with c | c | c
    · exact absurd e (hn i j hi hj c)
    · exact c
    · exact absurd e.symm (hn j i hj hi c)
theorem zD_perm {A : Nat → Prop} {w1 w2 : va_W} (hp : w1.Perm w2) (h : va_D A w1) : va_D A w2 := by
  rw [zD_iff] at h ⊢
  exact ⟨(hp.map Prod.fst).nodup_iff.mp h.1, fun q hq => h.2 q (hp.mem_iff.mpr hq)⟩
theorem zW_perm {E : zE} {A : Nat → Prop} {s : State} {w1 w2 : va_W} {H : Heap} {locs : List Loc} (h : zW E A s w1 H locs) (hp : w1.Perm w2) : zW E A s w2 H locs := ⟨zP_perm hp h.1, zD_perm hp h.2.1, h.2.2⟩
theorem zW_eq {E : zE} {A : Nat → Prop} {s : State} {w1 w2 : va_W} {H : Heap} {locs : List Loc} (h : zW E A s w1 H locs) (hp : w1 = w2) : zW E A s w2 H locs := hp ▸ h
theorem zP_left {D : va_G} {cl : List vw_C} {w1 w2 : va_W} {H : Heap} (h : va_P D cl (w1 ++ w2) H) : va_P D cl w1 H := fun k q hk => h k q (by rw [List.getElem?_append_left (List.getElem?_eq_some_iff.mp hk).1]; exact hk)
theorem zP_right {D : va_G} {cl : List vw_C} {w1 w2 : va_W} {H : Heap} (h : va_P D cl (w1 ++ w2) H) : va_P D cl w2 H := fun k q hk => h (w1.length + k) q (by rw [List.getElem?_append_right (by omega), Nat.add_sub_cancel_left]; exact hk)
theorem zD_left {A : Nat → Prop} {w1 w2 : va_W} (h : va_D A (w1 ++ w2)) : va_D A w1 := by
  rw [zD_iff] at h ⊢
  rw [List.map_append, List.nodup_append] at h
  exact ⟨h.1.1, fun q hq => h.2 q (List.mem_append_left _ hq)⟩
theorem zD_right {A : Nat → Prop} {w1 w2 : va_W} (h : va_D A (w1 ++ w2)) : va_D A w2 := by
  rw [zD_iff] at h ⊢
  rw [List.map_append, List.nodup_append] at h
  exact ⟨h.1.2.1, fun q hq => h.2 q (List.mem_append_right _ hq)⟩
/-- the frame: a callee had the cells wc, and leaves w1; the rest is as it was -/
theorem z_join {A0 : Nat → Prop} {D : va_G} {cl : List vw_C} {wc wr w1 : va_W} {H H1 : Heap} (hP : va_P D cl (wc ++ wr) H) (hD : va_D A0 (wc ++ wr))
    (hk : ∀ q : Nat, q < H.size → ¬ va_A wc H.size q → H1[q]? = H[q]?) (hF : ∀ q, va_A wc H.size q → A0 q) (hP1 : va_P D cl w1 H1) (hD1 : va_D (va_A wc H.size) w1) : va_P D cl (w1 ++ wr) H1 ∧ va_D A0 (w1 ++ wr) := by
  have apart : ∀ (k : Nat) (q : Nat × va_E), wr[k]? = some q → q.1 < H.size ∧ ¬ va_A wc H.size q.1 := by
    intro k q hq
    have h2 : (wc ++ wr)[wc.length + k]? = some q := by rw [List.getElem?_append_right (by omega), Nat.add_sub_cancel_left]; exact hq
    have hl := (hP _ q h2).lt
    refine ⟨hl, fun h => ?_⟩
    rcases h with ⟨k2, e, h⟩ | h
    · have hk2 := (List.getElem?_eq_some_iff.mp h).1
      have h3 : (wc ++ wr)[k2]? = some (q.1, e) := by rw [List.getElem?_append_left hk2]; exact h
      have := hD.1 _ _ _ _ h2 h3 rfl
      omega
    · omega
  refine ⟨va_P.app hP1 (fun k q hq => ?_), va_D.app (hD1.weaken (fun k q _ h => hF q.1 h)) (zD_right hD) (fun i j x y hx hy hxy => ?_)⟩
  · obtain ⟨g1, g2⟩ := apart k q hq
    exact (zP_right hP k q hq).kept (hk q.1 g1 g2)
  · exact (apart j y hy).2 (by rw [← hxy]; exact hD1.2 i x hx)
/-! ===== contracts ===== -/
def zPre (E : zE) (wc : va_W) (sz : Nat) (U : State) : Prop := U.heap.size = sz ∧ va_P E.1 vwCl wc U.heap ∧ zK E (va_A wc sz) U U.heap ∧ va_D (fun _ => True) wc
def zPost (E : zE) (A : Nat → Prop) (w1 : va_W) (t : State) : Prop := va_P E.1 vwCl w1 t.heap ∧ va_D A w1
abbrev zQi (E : zE) (A : Nat → Prop) (r : Int32) (w1 : va_W) := va_Qi (fun (x : Int32) (_ : Unit) => x = r) (fun _ t => zPost E A w1 t) A
abbrev zQv (E : zE) (A : Nat → Prop) (w1 : va_W) := va_Qv (fun (_ : Unit) => True) (fun _ t => zPost E A w1 t) A
abbrev zQa (E : zE) (A : Nat → Prop) (P1 : va_W → Prop) := va_Qv P1 (fun w1 t => zPost E A w1 t) A
abbrev zQn (E : zE) (A : Nat → Prop) (r : Int32) (P1 : va_W → Prop) := va_Qi (fun (x : Int32) w1 => x = r ∧ P1 w1) (fun w1 t => zPost E A w1 t) A
/-- an int method that makes nothing -/
def zMi (l : Launch) (E : zE) (y : MethodName) (ws : List Cond) (rm : Room) (args : List Value) (wc : va_W) (r : Int32) (w1 : va_W) : Prop := ∀ sz, Met l y ws rm (va_Pc args (zPre E wc sz)) (zQi E (va_A wc sz) r w1) 0 0 (va_A wc sz)
def zMv (l : Launch) (E : zE) (y : MethodName) (ws : List Cond) (rm : Room) (args : List Value) (wc : va_W) (w1 : va_W) : Prop := ∀ sz, Met l y ws rm (va_Pc args (zPre E wc sz)) (zQv E (va_A wc sz) w1) 0 0 (va_A wc sz)
/-- a void method that makes mc cells of ms slots; an int method that does -/
def zMa (l : Launch) (E : zE) (y : MethodName) (ws : List Cond) (rm : Room) (args : List Value) (wc : va_W) (mc ms : Nat) (P1 : va_W → Prop) : Prop := ∀ sz, Met l y ws rm (va_Pc args (zPre E wc sz)) (zQa E (va_A wc sz) P1) mc ms (va_A wc sz)
def zMn (l : Launch) (E : zE) (y : MethodName) (ws : List Cond) (rm : Room) (args : List Value) (wc : va_W) (mc ms : Nat) (r : Int32) (P1 : va_W → Prop) : Prop := ∀ sz, Met l y ws rm (va_Pc args (zPre E wc sz)) (zQn E (va_A wc sz) r P1) mc ms (va_A wc sz)
/-- what a method's body is told: the machine, the code, its words, its surroundings -/
def zX (E : zE) (ws : List Cond) (own : String) (cc : ByteArray) (nL : Nat) (ret : Option FieldType) (y : MethodName) (p : Program) (s : State) (m : MethodId) (args : Array Value) (meth : Method) (c : Code) (A : Nat → Prop) : Prop :=
  p.tables.exec = Jvm.exec ∧ c.code = cc ∧ c.maxLocals = nL ∧ s.vm.findClass own = some m.cls ∧ (∀ w ∈ ws, w.before args s = true) ∧ zK E A s s.heap ∧ (∀ q, s.heap.size ≤ q → A q) ∧ meth.sig.returnType = ret ∧ meth.locks = false ∧ meth.name = y.name
theorem z_entry {l : Launch} {y : MethodName} {ws ws' : List Cond} {rm : Room} {cc : ByteArray} {maxL : Nat} {ret : Option FieldType} {E : zE} {args : List Value} {wc : va_W} {sz mc ms : Nat} {Qc : (Nat → Prop) → Array Value → State → Outcome → State → Prop}
    (hy : plainName y.cls = true) (hw : ws = Cond.code y cc maxL ret :: ws') (hlen : (lg_sl args).length ≤ maxL)
    (body : ∀ (p : Program) (e : Env) (s : State) (m : MethodId) (below : List Frame) (meth : Method) (c : Code) (A : Nat → Prop), zX E ws y.cls cc maxL ret y p s m args.toArray meth c A → zW E A s wc s.heap [] → ∀ ls : Array Slot, lv_has ls maxL (lv_args 0 args) →
      W p l e rm s m args.toArray below meth c s.heap [] 0 0 (MQ below (Qc A) args.toArray s mc ms A) (F0 m 0 ls [])) : Met l y ws rm (va_Pc args (zPre E wc sz)) (Qc (va_A wc sz)) mc ms (va_A wc sz) := by
  refine Met.ofW (cc := cc) (maxL := maxL) (ret := ret) hy hw ?_
  intro p e s m args2 below meth c s₁ B hml hv
  obtain ⟨rfl, hsz, hP, hK, hD0⟩ := hv
  have hown : s.vm.findClass y.cls = some m.cls := findClass_of_methodNamed B.named
  have hin := (name_of_methodNamed B.named B.method).1
  subst hsz
  have hD := hD0.self (sz := s.heap.size)
  rw [lg_entry_eq]
  exact body p e s m below meth c _ ⟨B.exec, B.bytes, hml, hown, atoms_spec (ws := ws) B.pre, hK, fun q h => Or.inr h, B.returns, B.notSynchronized, hin⟩ ⟨hP, hD, va_S.rf⟩ _ (lv_entry args hlen)
end
