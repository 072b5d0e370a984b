section
-- ===== PART A: goes FIRST, ahead of the names: the tables' words, and 'selects' of the private methods out of them =====
/-- a private method of a class that the tables say can be made, by its rows of tables_1 -/
def lw_okq (q : MethodName × Nat) : Prop := (q.1.cls ≠ "java/lang/invoke/MethodHandle" ∧ q.1.cls ≠ "java/lang/invoke/VarHandle") ∧ Cond.instantiable q.1.cls q.2 ∈ tables_1 ∧ Cond.privateMethod q.1 ∈ tables_1 ∧ Cond.instanceMethod q.1 ∈ tables_1
theorem lw_p0 : lw_okq (⟨"java/lang/Throwable", "fillInStackTrace", "(I)Ljava/lang/Throwable;"⟩, 6) := ⟨⟨by decide +kernel, by decide +kernel⟩, List.mem_of_getElem? (i := 463) (by decide +kernel), List.mem_of_getElem? (i := 461) (by decide +kernel), List.mem_of_getElem? (i := 462) (by decide +kernel)⟩
theorem lw_p1 : lw_okq (⟨"MarkupJudge$Grammar", "forget", "()V"⟩, 9) := ⟨⟨by decide +kernel, by decide +kernel⟩, List.mem_of_getElem? (i := 120) (by decide +kernel), List.mem_of_getElem? (i := 543) (by decide +kernel), List.mem_of_getElem? (i := 544) (by decide +kernel)⟩
theorem lw_p2 : lw_okq (⟨"MarkupJudge$Grammar", "readHead", "()Z"⟩, 9) := ⟨⟨by decide +kernel, by decide +kernel⟩, List.mem_of_getElem? (i := 120) (by decide +kernel), List.mem_of_getElem? (i := 637) (by decide +kernel), List.mem_of_getElem? (i := 638) (by decide +kernel)⟩
theorem lw_p3 : lw_okq (⟨"MarkupJudge$Grammar", "refuseElsewhere", "()V"⟩, 9) := ⟨⟨by decide +kernel, by decide +kernel⟩, List.mem_of_getElem? (i := 120) (by decide +kernel), List.mem_of_getElem? (i := 653) (by decide +kernel), List.mem_of_getElem? (i := 654) (by decide +kernel)⟩
theorem lw_p4 : lw_okq (⟨"MarkupJudge$Grammar", "readElement", "()V"⟩, 9) := ⟨⟨by decide +kernel, by decide +kernel⟩, List.mem_of_getElem? (i := 120) (by decide +kernel), List.mem_of_getElem? (i := 680) (by decide +kernel), List.mem_of_getElem? (i := 681) (by decide +kernel)⟩
theorem lw_p5 : lw_okq (⟨"MarkupJudge$ModelReader", "readMixed", "(LMarkupJudge$Model;)V"⟩, 4) := ⟨⟨by decide +kernel, by decide +kernel⟩, List.mem_of_getElem? (i := 213) (by decide +kernel), List.mem_of_getElem? (i := 698) (by decide +kernel), List.mem_of_getElem? (i := 699) (by decide +kernel)⟩
theorem lw_p6 : lw_okq (⟨"MarkupJudge$ModelReader", "readGroup", "(LMarkupJudge$Model;I)V"⟩, 4) := ⟨⟨by decide +kernel, by decide +kernel⟩, List.mem_of_getElem? (i := 213) (by decide +kernel), List.mem_of_getElem? (i := 708) (by decide +kernel), List.mem_of_getElem? (i := 709) (by decide +kernel)⟩
theorem lw_p7 : lw_okq (⟨"MarkupJudge$ModelReader", "readPart", "(LMarkupJudge$Model;I)V"⟩, 4) := ⟨⟨by decide +kernel, by decide +kernel⟩, List.mem_of_getElem? (i := 213) (by decide +kernel), List.mem_of_getElem? (i := 714) (by decide +kernel), List.mem_of_getElem? (i := 715) (by decide +kernel)⟩
theorem lw_p8 : lw_okq (⟨"MarkupJudge$ModelReader", "readSign", "(LMarkupJudge$Model;)V"⟩, 4) := ⟨⟨by decide +kernel, by decide +kernel⟩, List.mem_of_getElem? (i := 213) (by decide +kernel), List.mem_of_getElem? (i := 725) (by decide +kernel), List.mem_of_getElem? (i := 726) (by decide +kernel)⟩
theorem lw_p9 : lw_okq (⟨"MarkupJudge$Grammar", "readClose", "()V"⟩, 9) := ⟨⟨by decide +kernel, by decide +kernel⟩, List.mem_of_getElem? (i := 120) (by decide +kernel), List.mem_of_getElem? (i := 737) (by decide +kernel), List.mem_of_getElem? (i := 738) (by decide +kernel)⟩
theorem lw_p10 : lw_okq (⟨"MarkupJudge$Grammar", "readAttributes", "()V"⟩, 9) := ⟨⟨by decide +kernel, by decide +kernel⟩, List.mem_of_getElem? (i := 120) (by decide +kernel), List.mem_of_getElem? (i := 743) (by decide +kernel), List.mem_of_getElem? (i := 744) (by decide +kernel)⟩
theorem lw_p11 : lw_okq (⟨"MarkupJudge$Grammar", "readAttribute", "(I)V"⟩, 9) := ⟨⟨by decide +kernel, by decide +kernel⟩, List.mem_of_getElem? (i := 120) (by decide +kernel), List.mem_of_getElem? (i := 748) (by decide +kernel), List.mem_of_getElem? (i := 749) (by decide +kernel)⟩
theorem lw_p12 : lw_okq (⟨"MarkupJudge$Grammar", "readType", "()I"⟩, 9) := ⟨⟨by decide +kernel, by decide +kernel⟩, List.mem_of_getElem? (i := 120) (by decide +kernel), List.mem_of_getElem? (i := 752) (by decide +kernel), List.mem_of_getElem? (i := 753) (by decide +kernel)⟩
theorem lw_p13 : lw_okq (⟨"MarkupJudge$Grammar", "readTokens", "()V"⟩, 9) := ⟨⟨by decide +kernel, by decide +kernel⟩, List.mem_of_getElem? (i := 120) (by decide +kernel), List.mem_of_getElem? (i := 760) (by decide +kernel), List.mem_of_getElem? (i := 761) (by decide +kernel)⟩
theorem lw_p14 : lw_okq (⟨"MarkupJudge$Grammar", "readRule", "()I"⟩, 9) := ⟨⟨by decide +kernel, by decide +kernel⟩, List.mem_of_getElem? (i := 120) (by decide +kernel), List.mem_of_getElem? (i := 772) (by decide +kernel), List.mem_of_getElem? (i := 773) (by decide +kernel)⟩
theorem lw_p15 : lw_okq (⟨"MarkupJudge$Values", "add", "(I)V"⟩, 4) := ⟨⟨by decide +kernel, by decide +kernel⟩, List.mem_of_getElem? (i := 97) (by decide +kernel), List.mem_of_getElem? (i := 810) (by decide +kernel), List.mem_of_getElem? (i := 811) (by decide +kernel)⟩
def lw_privs_1 : List (MethodName × Nat) := [(⟨"java/lang/Throwable", "fillInStackTrace", "(I)Ljava/lang/Throwable;"⟩, 6), (⟨"MarkupJudge$Grammar", "forget", "()V"⟩, 9), (⟨"MarkupJudge$Grammar", "readHead", "()Z"⟩, 9), (⟨"MarkupJudge$Grammar", "refuseElsewhere", "()V"⟩, 9), (⟨"MarkupJudge$Grammar", "readElement", "()V"⟩, 9), (⟨"MarkupJudge$ModelReader", "readMixed", "(LMarkupJudge$Model;)V"⟩, 4), (⟨"MarkupJudge$ModelReader", "readGroup", "(LMarkupJudge$Model;I)V"⟩, 4), (⟨"MarkupJudge$ModelReader", "readPart", "(LMarkupJudge$Model;I)V"⟩, 4), (⟨"MarkupJudge$ModelReader", "readSign", "(LMarkupJudge$Model;)V"⟩, 4), (⟨"MarkupJudge$Grammar", "readClose", "()V"⟩, 9), (⟨"MarkupJudge$Grammar", "readAttributes", "()V"⟩, 9), (⟨"MarkupJudge$Grammar", "readAttribute", "(I)V"⟩, 9), (⟨"MarkupJudge$Grammar", "readType", "()I"⟩, 9), (⟨"MarkupJudge$Grammar", "readTokens", "()V"⟩, 9), (⟨"MarkupJudge$Grammar", "readRule", "()I"⟩, 9), (⟨"MarkupJudge$Values", "add", "(I)V"⟩, 4)]
theorem lw_r1 : ∀ q ∈ lw_privs_1, lw_okq q := List.forall_mem_cons.mpr ⟨lw_p0, List.forall_mem_cons.mpr ⟨lw_p1, List.forall_mem_cons.mpr ⟨lw_p2, List.forall_mem_cons.mpr ⟨lw_p3, List.forall_mem_cons.mpr ⟨lw_p4, List.forall_mem_cons.mpr ⟨lw_p5, List.forall_mem_cons.mpr ⟨lw_p6, List.forall_mem_cons.mpr ⟨lw_p7, List.forall_mem_cons.mpr ⟨lw_p8, List.forall_mem_cons.mpr ⟨lw_p9, List.forall_mem_cons.mpr ⟨lw_p10, List.forall_mem_cons.mpr ⟨lw_p11, List.forall_mem_cons.mpr ⟨lw_p12, List.forall_mem_cons.mpr ⟨lw_p13, List.forall_mem_cons.mpr ⟨lw_p14, List.forall_mem_cons.mpr ⟨lw_p15, fun _ h => absurd h List.not_mem_nil⟩⟩⟩⟩⟩⟩⟩⟩⟩⟩⟩⟩⟩⟩⟩⟩
theorem lw_p16 : lw_okq (⟨"MarkupJudge$Nest", "isBeingRead", "(I)Z"⟩, 9) := ⟨⟨by decide +kernel, by decide +kernel⟩, List.mem_of_getElem? (i := 60) (by decide +kernel), List.mem_of_getElem? (i := 837) (by decide +kernel), List.mem_of_getElem? (i := 838) (by decide +kernel)⟩
theorem lw_p17 : lw_okq (⟨"MarkupJudge$Nest", "push", "(I)V"⟩, 9) := ⟨⟨by decide +kernel, by decide +kernel⟩, List.mem_of_getElem? (i := 60) (by decide +kernel), List.mem_of_getElem? (i := 843) (by decide +kernel), List.mem_of_getElem? (i := 844) (by decide +kernel)⟩
theorem lw_p18 : lw_okq (⟨"MarkupJudge$Values", "collapse", "()V"⟩, 4) := ⟨⟨by decide +kernel, by decide +kernel⟩, List.mem_of_getElem? (i := 97) (by decide +kernel), List.mem_of_getElem? (i := 847) (by decide +kernel), List.mem_of_getElem? (i := 848) (by decide +kernel)⟩
theorem lw_p19 : lw_okq (⟨"MarkupJudge$Grammar", "readEntity", "()V"⟩, 9) := ⟨⟨by decide +kernel, by decide +kernel⟩, List.mem_of_getElem? (i := 120) (by decide +kernel), List.mem_of_getElem? (i := 859) (by decide +kernel), List.mem_of_getElem? (i := 860) (by decide +kernel)⟩
theorem lw_p20 : lw_okq (⟨"MarkupJudge$Tree", "readTag", "()V"⟩, 5) := ⟨⟨by decide +kernel, by decide +kernel⟩, List.mem_of_getElem? (i := 309) (by decide +kernel), List.mem_of_getElem? (i := 881) (by decide +kernel), List.mem_of_getElem? (i := 882) (by decide +kernel)⟩
theorem lw_p21 : lw_okq (⟨"MarkupJudge$Tree", "readAttribute", "(II)I"⟩, 5) := ⟨⟨by decide +kernel, by decide +kernel⟩, List.mem_of_getElem? (i := 309) (by decide +kernel), List.mem_of_getElem? (i := 901) (by decide +kernel), List.mem_of_getElem? (i := 902) (by decide +kernel)⟩
theorem lw_p22 : lw_okq (⟨"MarkupJudge$Tree", "addDefaults", "(II)V"⟩, 5) := ⟨⟨by decide +kernel, by decide +kernel⟩, List.mem_of_getElem? (i := 309) (by decide +kernel), List.mem_of_getElem? (i := 917) (by decide +kernel), List.mem_of_getElem? (i := 918) (by decide +kernel)⟩
theorem lw_p23 : lw_okq (⟨"MarkupJudge$Tree", "endElement", "(I)V"⟩, 5) := ⟨⟨by decide +kernel, by decide +kernel⟩, List.mem_of_getElem? (i := 309) (by decide +kernel), List.mem_of_getElem? (i := 925) (by decide +kernel), List.mem_of_getElem? (i := 926) (by decide +kernel)⟩
theorem lw_p24 : lw_okq (⟨"MarkupJudge$Tree", "readReference", "()V"⟩, 5) := ⟨⟨by decide +kernel, by decide +kernel⟩, List.mem_of_getElem? (i := 309) (by decide +kernel), List.mem_of_getElem? (i := 934) (by decide +kernel), List.mem_of_getElem? (i := 935) (by decide +kernel)⟩
theorem lw_p25 : lw_okq (⟨"MarkupJudge$Tree", "readEndTag", "()V"⟩, 5) := ⟨⟨by decide +kernel, by decide +kernel⟩, List.mem_of_getElem? (i := 309) (by decide +kernel), List.mem_of_getElem? (i := 946) (by decide +kernel), List.mem_of_getElem? (i := 947) (by decide +kernel)⟩
theorem lw_p26 : lw_okq (⟨"MarkupJudge$Faults", "lookAtModels", "()V"⟩, 8) := ⟨⟨by decide +kernel, by decide +kernel⟩, List.mem_of_getElem? (i := 331) (by decide +kernel), List.mem_of_getElem? (i := 956) (by decide +kernel), List.mem_of_getElem? (i := 957) (by decide +kernel)⟩
theorem lw_p27 : lw_okq (⟨"MarkupJudge$Faults", "tell", "(IZ)V"⟩, 8) := ⟨⟨by decide +kernel, by decide +kernel⟩, List.mem_of_getElem? (i := 331) (by decide +kernel), List.mem_of_getElem? (i := 960) (by decide +kernel), List.mem_of_getElem? (i := 961) (by decide +kernel)⟩
theorem lw_p28 : lw_okq (⟨"MarkupJudge$Model", "areDifferent", "(I)Z"⟩, 6) := ⟨⟨by decide +kernel, by decide +kernel⟩, List.mem_of_getElem? (i := 127) (by decide +kernel), List.mem_of_getElem? (i := 968) (by decide +kernel), List.mem_of_getElem? (i := 969) (by decide +kernel)⟩
theorem lw_p29 : lw_okq (⟨"MarkupJudge$Faults", "lookAtEvent", "(I)V"⟩, 8) := ⟨⟨by decide +kernel, by decide +kernel⟩, List.mem_of_getElem? (i := 331) (by decide +kernel), List.mem_of_getElem? (i := 972) (by decide +kernel), List.mem_of_getElem? (i := 973) (by decide +kernel)⟩
theorem lw_p30 : lw_okq (⟨"MarkupJudge$Faults", "lookAtBegin", "(I)V"⟩, 8) := ⟨⟨by decide +kernel, by decide +kernel⟩, List.mem_of_getElem? (i := 331) (by decide +kernel), List.mem_of_getElem? (i := 976) (by decide +kernel), List.mem_of_getElem? (i := 977) (by decide +kernel)⟩
theorem lw_p31 : lw_okq (⟨"MarkupJudge$Faults", "modelOf", "(I)LMarkupJudge$Model;"⟩, 8) := ⟨⟨by decide +kernel, by decide +kernel⟩, List.mem_of_getElem? (i := 331) (by decide +kernel), List.mem_of_getElem? (i := 980) (by decide +kernel), List.mem_of_getElem? (i := 981) (by decide +kernel)⟩
def lw_privs_2 : List (MethodName × Nat) := [(⟨"MarkupJudge$Nest", "isBeingRead", "(I)Z"⟩, 9), (⟨"MarkupJudge$Nest", "push", "(I)V"⟩, 9), (⟨"MarkupJudge$Values", "collapse", "()V"⟩, 4), (⟨"MarkupJudge$Grammar", "readEntity", "()V"⟩, 9), (⟨"MarkupJudge$Tree", "readTag", "()V"⟩, 5), (⟨"MarkupJudge$Tree", "readAttribute", "(II)I"⟩, 5), (⟨"MarkupJudge$Tree", "addDefaults", "(II)V"⟩, 5), (⟨"MarkupJudge$Tree", "endElement", "(I)V"⟩, 5), (⟨"MarkupJudge$Tree", "readReference", "()V"⟩, 5), (⟨"MarkupJudge$Tree", "readEndTag", "()V"⟩, 5), (⟨"MarkupJudge$Faults", "lookAtModels", "()V"⟩, 8), (⟨"MarkupJudge$Faults", "tell", "(IZ)V"⟩, 8), (⟨"MarkupJudge$Model", "areDifferent", "(I)Z"⟩, 6), (⟨"MarkupJudge$Faults", "lookAtEvent", "(I)V"⟩, 8), (⟨"MarkupJudge$Faults", "lookAtBegin", "(I)V"⟩, 8), (⟨"MarkupJudge$Faults", "modelOf", "(I)LMarkupJudge$Model;"⟩, 8)]
theorem lw_r2 : ∀ q ∈ lw_privs_2, lw_okq q := List.forall_mem_cons.mpr ⟨lw_p16, List.forall_mem_cons.mpr ⟨lw_p17, List.forall_mem_cons.mpr ⟨lw_p18, List.forall_mem_cons.mpr ⟨lw_p19, List.forall_mem_cons.mpr ⟨lw_p20, List.forall_mem_cons.mpr ⟨lw_p21, List.forall_mem_cons.mpr ⟨lw_p22, List.forall_mem_cons.mpr ⟨lw_p23, List.forall_mem_cons.mpr ⟨lw_p24, List.forall_mem_cons.mpr ⟨lw_p25, List.forall_mem_cons.mpr ⟨lw_p26, List.forall_mem_cons.mpr ⟨lw_p27, List.forall_mem_cons.mpr ⟨lw_p28, List.forall_mem_cons.mpr ⟨lw_p29, List.forall_mem_cons.mpr ⟨lw_p30, List.forall_mem_cons.mpr ⟨lw_p31, fun _ h => absurd h List.not_mem_nil⟩⟩⟩⟩⟩⟩⟩⟩⟩⟩⟩⟩⟩⟩⟩⟩
theorem lw_p32 : lw_okq (⟨"MarkupJudge$Model", "withPlace", "(II)I"⟩, 6) := ⟨⟨by decide +kernel, by decide +kernel⟩, List.mem_of_getElem? (i := 127) (by decide +kernel), List.mem_of_getElem? (i := 988) (by decide +kernel), List.mem_of_getElem? (i := 989) (by decide +kernel)⟩
theorem lw_p33 : lw_okq (⟨"MarkupJudge$Faults", "lookForRequired", "(I)V"⟩, 8) := ⟨⟨by decide +kernel, by decide +kernel⟩, List.mem_of_getElem? (i := 331) (by decide +kernel), List.mem_of_getElem? (i := 992) (by decide +kernel), List.mem_of_getElem? (i := 993) (by decide +kernel)⟩
theorem lw_p34 : lw_okq (⟨"MarkupJudge$Faults", "hasAttribute", "(II)Z"⟩, 8) := ⟨⟨by decide +kernel, by decide +kernel⟩, List.mem_of_getElem? (i := 331) (by decide +kernel), List.mem_of_getElem? (i := 996) (by decide +kernel), List.mem_of_getElem? (i := 997) (by decide +kernel)⟩
theorem lw_p35 : lw_okq (⟨"MarkupJudge$Faults", "lookAtAttribute", "(II)V"⟩, 8) := ⟨⟨by decide +kernel, by decide +kernel⟩, List.mem_of_getElem? (i := 331) (by decide +kernel), List.mem_of_getElem? (i := 1000) (by decide +kernel), List.mem_of_getElem? (i := 1001) (by decide +kernel)⟩
theorem lw_p36 : lw_okq (⟨"MarkupJudge$Faults", "isListed", "(III)Z"⟩, 8) := ⟨⟨by decide +kernel, by decide +kernel⟩, List.mem_of_getElem? (i := 331) (by decide +kernel), List.mem_of_getElem? (i := 1008) (by decide +kernel), List.mem_of_getElem? (i := 1009) (by decide +kernel)⟩
theorem lw_p37 : lw_okq (⟨"MarkupJudge$Faults", "isIdBefore", "(II)Z"⟩, 8) := ⟨⟨by decide +kernel, by decide +kernel⟩, List.mem_of_getElem? (i := 331) (by decide +kernel), List.mem_of_getElem? (i := 1023) (by decide +kernel), List.mem_of_getElem? (i := 1024) (by decide +kernel)⟩
theorem lw_p38 : lw_okq (⟨"MarkupJudge$Faults", "lookAtText", "(I)V"⟩, 8) := ⟨⟨by decide +kernel, by decide +kernel⟩, List.mem_of_getElem? (i := 331) (by decide +kernel), List.mem_of_getElem? (i := 1027) (by decide +kernel), List.mem_of_getElem? (i := 1028) (by decide +kernel)⟩
theorem lw_p39 : lw_okq (⟨"MarkupJudge$Faults", "lookAtEnd", "()V"⟩, 8) := ⟨⟨by decide +kernel, by decide +kernel⟩, List.mem_of_getElem? (i := 331) (by decide +kernel), List.mem_of_getElem? (i := 1040) (by decide +kernel), List.mem_of_getElem? (i := 1041) (by decide +kernel)⟩
theorem lw_p40 : lw_okq (⟨"MarkupJudgeModel", "fail", "(I)I"⟩, 65) := ⟨⟨by decide +kernel, by decide +kernel⟩, List.mem_of_getElem? (i := 1074) (by decide +kernel), List.mem_of_getElem? (i := 1285) (by decide +kernel), List.mem_of_getElem? (i := 1286) (by decide +kernel)⟩
theorem lw_p41 : lw_okq (⟨"MarkupJudgeModel", "begin", "()V"⟩, 65) := ⟨⟨by decide +kernel, by decide +kernel⟩, List.mem_of_getElem? (i := 1074) (by decide +kernel), List.mem_of_getElem? (i := 1298) (by decide +kernel), List.mem_of_getElem? (i := 1299) (by decide +kernel)⟩
theorem lw_p42 : lw_okq (⟨"MarkupJudgeModel", "decode", "()V"⟩, 65) := ⟨⟨by decide +kernel, by decide +kernel⟩, List.mem_of_getElem? (i := 1074) (by decide +kernel), List.mem_of_getElem? (i := 1302) (by decide +kernel), List.mem_of_getElem? (i := 1303) (by decide +kernel)⟩
theorem lw_p43 : lw_okq (⟨"MarkupJudgeModel", "halt", "(I)V"⟩, 65) := ⟨⟨by decide +kernel, by decide +kernel⟩, List.mem_of_getElem? (i := 1074) (by decide +kernel), List.mem_of_getElem? (i := 1306) (by decide +kernel), List.mem_of_getElem? (i := 1307) (by decide +kernel)⟩
theorem lw_p44 : lw_okq (⟨"MarkupJudgeModel", "follower", "(I)I"⟩, 65) := ⟨⟨by decide +kernel, by decide +kernel⟩, List.mem_of_getElem? (i := 1074) (by decide +kernel), List.mem_of_getElem? (i := 1310) (by decide +kernel), List.mem_of_getElem? (i := 1311) (by decide +kernel)⟩
theorem lw_p45 : lw_okq (⟨"MarkupJudgeModel", "around", "(Z)V"⟩, 65) := ⟨⟨by decide +kernel, by decide +kernel⟩, List.mem_of_getElem? (i := 1074) (by decide +kernel), List.mem_of_getElem? (i := 1320) (by decide +kernel), List.mem_of_getElem? (i := 1321) (by decide +kernel)⟩
theorem lw_p46 : lw_okq (⟨"MarkupJudgeModel", "blanks", "()Z"⟩, 65) := ⟨⟨by decide +kernel, by decide +kernel⟩, List.mem_of_getElem? (i := 1074) (by decide +kernel), List.mem_of_getElem? (i := 1324) (by decide +kernel), List.mem_of_getElem? (i := 1325) (by decide +kernel)⟩
theorem lw_p47 : lw_okq (⟨"MarkupJudgeModel", "peek", "()I"⟩, 65) := ⟨⟨by decide +kernel, by decide +kernel⟩, List.mem_of_getElem? (i := 1074) (by decide +kernel), List.mem_of_getElem? (i := 1328) (by decide +kernel), List.mem_of_getElem? (i := 1329) (by decide +kernel)⟩
def lw_privs_3 : List (MethodName × Nat) := [(⟨"MarkupJudge$Model", "withPlace", "(II)I"⟩, 6), (⟨"MarkupJudge$Faults", "lookForRequired", "(I)V"⟩, 8), (⟨"MarkupJudge$Faults", "hasAttribute", "(II)Z"⟩, 8), (⟨"MarkupJudge$Faults", "lookAtAttribute", "(II)V"⟩, 8), (⟨"MarkupJudge$Faults", "isListed", "(III)Z"⟩, 8), (⟨"MarkupJudge$Faults", "isIdBefore", "(II)Z"⟩, 8), (⟨"MarkupJudge$Faults", "lookAtText", "(I)V"⟩, 8), (⟨"MarkupJudge$Faults", "lookAtEnd", "()V"⟩, 8), (⟨"MarkupJudgeModel", "fail", "(I)I"⟩, 65), (⟨"MarkupJudgeModel", "begin", "()V"⟩, 65), (⟨"MarkupJudgeModel", "decode", "()V"⟩, 65), (⟨"MarkupJudgeModel", "halt", "(I)V"⟩, 65), (⟨"MarkupJudgeModel", "follower", "(I)I"⟩, 65), (⟨"MarkupJudgeModel", "around", "(Z)V"⟩, 65), (⟨"MarkupJudgeModel", "blanks", "()Z"⟩, 65), (⟨"MarkupJudgeModel", "peek", "()I"⟩, 65)]
theorem lw_r3 : ∀ q ∈ lw_privs_3, lw_okq q := List.forall_mem_cons.mpr ⟨lw_p32, List.forall_mem_cons.mpr ⟨lw_p33, List.forall_mem_cons.mpr ⟨lw_p34, List.forall_mem_cons.mpr ⟨lw_p35, List.forall_mem_cons.mpr ⟨lw_p36, List.forall_mem_cons.mpr ⟨lw_p37, List.forall_mem_cons.mpr ⟨lw_p38, List.forall_mem_cons.mpr ⟨lw_p39, List.forall_mem_cons.mpr ⟨lw_p40, List.forall_mem_cons.mpr ⟨lw_p41, List.forall_mem_cons.mpr ⟨lw_p42, List.forall_mem_cons.mpr ⟨lw_p43, List.forall_mem_cons.mpr ⟨lw_p44, List.forall_mem_cons.mpr ⟨lw_p45, List.forall_mem_cons.mpr ⟨lw_p46, List.forall_mem_cons.mpr ⟨lw_p47, fun _ h => absurd h List.not_mem_nil⟩⟩⟩⟩⟩⟩⟩⟩⟩⟩⟩⟩⟩⟩⟩⟩
theorem lw_p48 : lw_okq (⟨"MarkupJudgeModel", "skip", "()V"⟩, 65) := ⟨⟨by decide +kernel, by decide +kernel⟩, List.mem_of_getElem? (i := 1074) (by decide +kernel), List.mem_of_getElem? (i := 1335) (by decide +kernel), List.mem_of_getElem? (i := 1336) (by decide +kernel)⟩
theorem lw_p49 : lw_okq (⟨"MarkupJudgeModel", "doctype", "()V"⟩, 65) := ⟨⟨by decide +kernel, by decide +kernel⟩, List.mem_of_getElem? (i := 1074) (by decide +kernel), List.mem_of_getElem? (i := 1339) (by decide +kernel), List.mem_of_getElem? (i := 1340) (by decide +kernel)⟩
theorem lw_p50 : lw_okq (⟨"MarkupJudgeModel", "word", "(J)V"⟩, 65) := ⟨⟨by decide +kernel, by decide +kernel⟩, List.mem_of_getElem? (i := 1074) (by decide +kernel), List.mem_of_getElem? (i := 1344) (by decide +kernel), List.mem_of_getElem? (i := 1345) (by decide +kernel)⟩
theorem lw_p51 : lw_okq (⟨"MarkupJudgeModel", "need", "(I)V"⟩, 65) := ⟨⟨by decide +kernel, by decide +kernel⟩, List.mem_of_getElem? (i := 1074) (by decide +kernel), List.mem_of_getElem? (i := 1348) (by decide +kernel), List.mem_of_getElem? (i := 1349) (by decide +kernel)⟩
theorem lw_p52 : lw_okq (⟨"MarkupJudgeModel", "aBlank", "()V"⟩, 65) := ⟨⟨by decide +kernel, by decide +kernel⟩, List.mem_of_getElem? (i := 1074) (by decide +kernel), List.mem_of_getElem? (i := 1352) (by decide +kernel), List.mem_of_getElem? (i := 1353) (by decide +kernel)⟩
theorem lw_p53 : lw_okq (⟨"MarkupJudgeModel", "letter", "()I"⟩, 65) := ⟨⟨by decide +kernel, by decide +kernel⟩, List.mem_of_getElem? (i := 1074) (by decide +kernel), List.mem_of_getElem? (i := 1356) (by decide +kernel), List.mem_of_getElem? (i := 1357) (by decide +kernel)⟩
theorem lw_p54 : lw_okq (⟨"MarkupJudgeModel", "outside", "()V"⟩, 65) := ⟨⟨by decide +kernel, by decide +kernel⟩, List.mem_of_getElem? (i := 1074) (by decide +kernel), List.mem_of_getElem? (i := 1360) (by decide +kernel), List.mem_of_getElem? (i := 1361) (by decide +kernel)⟩
theorem lw_p55 : lw_okq (⟨"MarkupJudgeModel", "declaration", "()V"⟩, 65) := ⟨⟨by decide +kernel, by decide +kernel⟩, List.mem_of_getElem? (i := 1074) (by decide +kernel), List.mem_of_getElem? (i := 1366) (by decide +kernel), List.mem_of_getElem? (i := 1367) (by decide +kernel)⟩
theorem lw_p56 : lw_okq (⟨"MarkupJudgeModel", "comment", "()V"⟩, 65) := ⟨⟨by decide +kernel, by decide +kernel⟩, List.mem_of_getElem? (i := 1074) (by decide +kernel), List.mem_of_getElem? (i := 1370) (by decide +kernel), List.mem_of_getElem? (i := 1371) (by decide +kernel)⟩
theorem lw_p57 : lw_okq (⟨"MarkupJudgeModel", "attlist", "()V"⟩, 65) := ⟨⟨by decide +kernel, by decide +kernel⟩, List.mem_of_getElem? (i := 1074) (by decide +kernel), List.mem_of_getElem? (i := 1375) (by decide +kernel), List.mem_of_getElem? (i := 1376) (by decide +kernel)⟩
theorem lw_p58 : lw_okq (⟨"MarkupJudgeModel", "attribute", "(I)V"⟩, 65) := ⟨⟨by decide +kernel, by decide +kernel⟩, List.mem_of_getElem? (i := 1074) (by decide +kernel), List.mem_of_getElem? (i := 1379) (by decide +kernel), List.mem_of_getElem? (i := 1380) (by decide +kernel)⟩
theorem lw_p59 : lw_okq (⟨"MarkupJudgeModel", "declared", "(II)I"⟩, 65) := ⟨⟨by decide +kernel, by decide +kernel⟩, List.mem_of_getElem? (i := 1074) (by decide +kernel), List.mem_of_getElem? (i := 1383) (by decide +kernel), List.mem_of_getElem? (i := 1384) (by decide +kernel)⟩
theorem lw_p60 : lw_okq (⟨"MarkupJudgeModel", "type", "(I)V"⟩, 65) := ⟨⟨by decide +kernel, by decide +kernel⟩, List.mem_of_getElem? (i := 1074) (by decide +kernel), List.mem_of_getElem? (i := 1387) (by decide +kernel), List.mem_of_getElem? (i := 1388) (by decide +kernel)⟩
theorem lw_p61 : lw_okq (⟨"MarkupJudgeModel", "token", "()V"⟩, 65) := ⟨⟨by decide +kernel, by decide +kernel⟩, List.mem_of_getElem? (i := 1074) (by decide +kernel), List.mem_of_getElem? (i := 1395) (by decide +kernel), List.mem_of_getElem? (i := 1396) (by decide +kernel)⟩
theorem lw_p62 : lw_okq (⟨"MarkupJudgeModel", "quoted", "()V"⟩, 65) := ⟨⟨by decide +kernel, by decide +kernel⟩, List.mem_of_getElem? (i := 1074) (by decide +kernel), List.mem_of_getElem? (i := 1405) (by decide +kernel), List.mem_of_getElem? (i := 1406) (by decide +kernel)⟩
theorem lw_p63 : lw_okq (⟨"MarkupJudgeModel", "leave", "()V"⟩, 65) := ⟨⟨by decide +kernel, by decide +kernel⟩, List.mem_of_getElem? (i := 1074) (by decide +kernel), List.mem_of_getElem? (i := 1409) (by decide +kernel), List.mem_of_getElem? (i := 1410) (by decide +kernel)⟩
def lw_privs_4 : List (MethodName × Nat) := [(⟨"MarkupJudgeModel", "skip", "()V"⟩, 65), (⟨"MarkupJudgeModel", "doctype", "()V"⟩, 65), (⟨"MarkupJudgeModel", "word", "(J)V"⟩, 65), (⟨"MarkupJudgeModel", "need", "(I)V"⟩, 65), (⟨"MarkupJudgeModel", "aBlank", "()V"⟩, 65), (⟨"MarkupJudgeModel", "letter", "()I"⟩, 65), (⟨"MarkupJudgeModel", "outside", "()V"⟩, 65), (⟨"MarkupJudgeModel", "declaration", "()V"⟩, 65), (⟨"MarkupJudgeModel", "comment", "()V"⟩, 65), (⟨"MarkupJudgeModel", "attlist", "()V"⟩, 65), (⟨"MarkupJudgeModel", "attribute", "(I)V"⟩, 65), (⟨"MarkupJudgeModel", "declared", "(II)I"⟩, 65), (⟨"MarkupJudgeModel", "type", "(I)V"⟩, 65), (⟨"MarkupJudgeModel", "token", "()V"⟩, 65), (⟨"MarkupJudgeModel", "quoted", "()V"⟩, 65), (⟨"MarkupJudgeModel", "leave", "()V"⟩, 65)]
theorem lw_r4 : ∀ q ∈ lw_privs_4, lw_okq q := List.forall_mem_cons.mpr ⟨lw_p48, List.forall_mem_cons.mpr ⟨lw_p49, List.forall_mem_cons.mpr ⟨lw_p50, List.forall_mem_cons.mpr ⟨lw_p51, List.forall_mem_cons.mpr ⟨lw_p52, List.forall_mem_cons.mpr ⟨lw_p53, List.forall_mem_cons.mpr ⟨lw_p54, List.forall_mem_cons.mpr ⟨lw_p55, List.forall_mem_cons.mpr ⟨lw_p56, List.forall_mem_cons.mpr ⟨lw_p57, List.forall_mem_cons.mpr ⟨lw_p58, List.forall_mem_cons.mpr ⟨lw_p59, List.forall_mem_cons.mpr ⟨lw_p60, List.forall_mem_cons.mpr ⟨lw_p61, List.forall_mem_cons.mpr ⟨lw_p62, List.forall_mem_cons.mpr ⟨lw_p63, fun _ h => absurd h List.not_mem_nil⟩⟩⟩⟩⟩⟩⟩⟩⟩⟩⟩⟩⟩⟩⟩⟩
theorem lw_p64 : lw_okq (⟨"MarkupJudgeModel", "reference", "()I"⟩, 65) := ⟨⟨by decide +kernel, by decide +kernel⟩, List.mem_of_getElem? (i := 1074) (by decide +kernel), List.mem_of_getElem? (i := 1413) (by decide +kernel), List.mem_of_getElem? (i := 1414) (by decide +kernel)⟩
theorem lw_p65 : lw_okq (⟨"MarkupJudgeModel", "numbered", "()I"⟩, 65) := ⟨⟨by decide +kernel, by decide +kernel⟩, List.mem_of_getElem? (i := 1074) (by decide +kernel), List.mem_of_getElem? (i := 1417) (by decide +kernel), List.mem_of_getElem? (i := 1418) (by decide +kernel)⟩
theorem lw_p66 : lw_okq (⟨"MarkupJudgeModel", "enter", "(I)V"⟩, 65) := ⟨⟨by decide +kernel, by decide +kernel⟩, List.mem_of_getElem? (i := 1074) (by decide +kernel), List.mem_of_getElem? (i := 1421) (by decide +kernel), List.mem_of_getElem? (i := 1422) (by decide +kernel)⟩
theorem lw_p67 : lw_okq (⟨"MarkupJudgeModel", "shorten", "()V"⟩, 65) := ⟨⟨by decide +kernel, by decide +kernel⟩, List.mem_of_getElem? (i := 1074) (by decide +kernel), List.mem_of_getElem? (i := 1427) (by decide +kernel), List.mem_of_getElem? (i := 1428) (by decide +kernel)⟩
theorem lw_p68 : lw_okq (⟨"MarkupJudgeModel", "model", "()V"⟩, 65) := ⟨⟨by decide +kernel, by decide +kernel⟩, List.mem_of_getElem? (i := 1074) (by decide +kernel), List.mem_of_getElem? (i := 1432) (by decide +kernel), List.mem_of_getElem? (i := 1433) (by decide +kernel)⟩
theorem lw_p69 : lw_okq (⟨"MarkupJudgeModel", "mixture", "()I"⟩, 65) := ⟨⟨by decide +kernel, by decide +kernel⟩, List.mem_of_getElem? (i := 1074) (by decide +kernel), List.mem_of_getElem? (i := 1438) (by decide +kernel), List.mem_of_getElem? (i := 1439) (by decide +kernel)⟩
theorem lw_p70 : lw_okq (⟨"MarkupJudgeModel", "group", "()V"⟩, 65) := ⟨⟨by decide +kernel, by decide +kernel⟩, List.mem_of_getElem? (i := 1074) (by decide +kernel), List.mem_of_getElem? (i := 1443) (by decide +kernel), List.mem_of_getElem? (i := 1444) (by decide +kernel)⟩
theorem lw_p71 : lw_okq (⟨"MarkupJudgeModel", "openGroup", "(I)V"⟩, 65) := ⟨⟨by decide +kernel, by decide +kernel⟩, List.mem_of_getElem? (i := 1074) (by decide +kernel), List.mem_of_getElem? (i := 1447) (by decide +kernel), List.mem_of_getElem? (i := 1448) (by decide +kernel)⟩
theorem lw_p72 : lw_okq (⟨"MarkupJudgeModel", "placeOf", "(I)V"⟩, 65) := ⟨⟨by decide +kernel, by decide +kernel⟩, List.mem_of_getElem? (i := 1074) (by decide +kernel), List.mem_of_getElem? (i := 1451) (by decide +kernel), List.mem_of_getElem? (i := 1452) (by decide +kernel)⟩
theorem lw_p73 : lw_okq (⟨"MarkupJudgeModel", "behindPart", "(I)I"⟩, 65) := ⟨⟨by decide +kernel, by decide +kernel⟩, List.mem_of_getElem? (i := 1074) (by decide +kernel), List.mem_of_getElem? (i := 1455) (by decide +kernel), List.mem_of_getElem? (i := 1456) (by decide +kernel)⟩
theorem lw_p74 : lw_okq (⟨"MarkupJudgeModel", "suffix", "()V"⟩, 65) := ⟨⟨by decide +kernel, by decide +kernel⟩, List.mem_of_getElem? (i := 1074) (by decide +kernel), List.mem_of_getElem? (i := 1459) (by decide +kernel), List.mem_of_getElem? (i := 1460) (by decide +kernel)⟩
theorem lw_p75 : lw_okq (⟨"MarkupJudgeModel", "combine", "(I)V"⟩, 65) := ⟨⟨by decide +kernel, by decide +kernel⟩, List.mem_of_getElem? (i := 1074) (by decide +kernel), List.mem_of_getElem? (i := 1463) (by decide +kernel), List.mem_of_getElem? (i := 1464) (by decide +kernel)⟩
theorem lw_p76 : lw_okq (⟨"MarkupJudgeModel", "plain", "(I)Z"⟩, 65) := ⟨⟨by decide +kernel, by decide +kernel⟩, List.mem_of_getElem? (i := 1074) (by decide +kernel), List.mem_of_getElem? (i := 1467) (by decide +kernel), List.mem_of_getElem? (i := 1468) (by decide +kernel)⟩
theorem lw_p77 : lw_okq (⟨"MarkupJudgeModel", "apart", "(II)Z"⟩, 65) := ⟨⟨by decide +kernel, by decide +kernel⟩, List.mem_of_getElem? (i := 1074) (by decide +kernel), List.mem_of_getElem? (i := 1471) (by decide +kernel), List.mem_of_getElem? (i := 1472) (by decide +kernel)⟩
theorem lw_p78 : lw_okq (⟨"MarkupJudgeModel", "entityText", "()V"⟩, 65) := ⟨⟨by decide +kernel, by decide +kernel⟩, List.mem_of_getElem? (i := 1074) (by decide +kernel), List.mem_of_getElem? (i := 1476) (by decide +kernel), List.mem_of_getElem? (i := 1477) (by decide +kernel)⟩
theorem lw_p79 : lw_okq (⟨"MarkupJudgeModel", "start", "()V"⟩, 65) := ⟨⟨by decide +kernel, by decide +kernel⟩, List.mem_of_getElem? (i := 1074) (by decide +kernel), List.mem_of_getElem? (i := 1480) (by decide +kernel), List.mem_of_getElem? (i := 1481) (by decide +kernel)⟩
def lw_privs_5 : List (MethodName × Nat) := [(⟨"MarkupJudgeModel", "reference", "()I"⟩, 65), (⟨"MarkupJudgeModel", "numbered", "()I"⟩, 65), (⟨"MarkupJudgeModel", "enter", "(I)V"⟩, 65), (⟨"MarkupJudgeModel", "shorten", "()V"⟩, 65), (⟨"MarkupJudgeModel", "model", "()V"⟩, 65), (⟨"MarkupJudgeModel", "mixture", "()I"⟩, 65), (⟨"MarkupJudgeModel", "group", "()V"⟩, 65), (⟨"MarkupJudgeModel", "openGroup", "(I)V"⟩, 65), (⟨"MarkupJudgeModel", "placeOf", "(I)V"⟩, 65), (⟨"MarkupJudgeModel", "behindPart", "(I)I"⟩, 65), (⟨"MarkupJudgeModel", "suffix", "()V"⟩, 65), (⟨"MarkupJudgeModel", "combine", "(I)V"⟩, 65), (⟨"MarkupJudgeModel", "plain", "(I)Z"⟩, 65), (⟨"MarkupJudgeModel", "apart", "(II)Z"⟩, 65), (⟨"MarkupJudgeModel", "entityText", "()V"⟩, 65), (⟨"MarkupJudgeModel", "start", "()V"⟩, 65)]
theorem lw_r5 : ∀ q ∈ lw_privs_5, lw_okq q := List.forall_mem_cons.mpr ⟨lw_p64, List.forall_mem_cons.mpr ⟨lw_p65, List.forall_mem_cons.mpr ⟨lw_p66, List.forall_mem_cons.mpr ⟨lw_p67, List.forall_mem_cons.mpr ⟨lw_p68, List.forall_mem_cons.mpr ⟨lw_p69, List.forall_mem_cons.mpr ⟨lw_p70, List.forall_mem_cons.mpr ⟨lw_p71, List.forall_mem_cons.mpr ⟨lw_p72, List.forall_mem_cons.mpr ⟨lw_p73, List.forall_mem_cons.mpr ⟨lw_p74, List.forall_mem_cons.mpr ⟨lw_p75, List.forall_mem_cons.mpr ⟨lw_p76, List.forall_mem_cons.mpr ⟨lw_p77, List.forall_mem_cons.mpr ⟨lw_p78, List.forall_mem_cons.mpr ⟨lw_p79, fun _ h => absurd h List.not_mem_nil⟩⟩⟩⟩⟩⟩⟩⟩⟩⟩⟩⟩⟩⟩⟩⟩
theorem lw_p80 : lw_okq (⟨"MarkupJudgeModel", "follows", "(I)V"⟩, 65) := ⟨⟨by decide +kernel, by decide +kernel⟩, List.mem_of_getElem? (i := 1074) (by decide +kernel), List.mem_of_getElem? (i := 1484) (by decide +kernel), List.mem_of_getElem? (i := 1485) (by decide +kernel)⟩
theorem lw_p81 : lw_okq (⟨"MarkupJudgeModel", "happens", "(II)V"⟩, 65) := ⟨⟨by decide +kernel, by decide +kernel⟩, List.mem_of_getElem? (i := 1074) (by decide +kernel), List.mem_of_getElem? (i := 1488) (by decide +kernel), List.mem_of_getElem? (i := 1489) (by decide +kernel)⟩
theorem lw_p82 : lw_okq (⟨"MarkupJudgeModel", "attributeOf", "(II)I"⟩, 65) := ⟨⟨by decide +kernel, by decide +kernel⟩, List.mem_of_getElem? (i := 1074) (by decide +kernel), List.mem_of_getElem? (i := 1492) (by decide +kernel), List.mem_of_getElem? (i := 1493) (by decide +kernel)⟩
theorem lw_p83 : lw_okq (⟨"MarkupJudgeModel", "attributeEvent", "(II)V"⟩, 65) := ⟨⟨by decide +kernel, by decide +kernel⟩, List.mem_of_getElem? (i := 1074) (by decide +kernel), List.mem_of_getElem? (i := 1496) (by decide +kernel), List.mem_of_getElem? (i := 1497) (by decide +kernel)⟩
theorem lw_p84 : lw_okq (⟨"MarkupJudgeModel", "say", "(I)V"⟩, 65) := ⟨⟨by decide +kernel, by decide +kernel⟩, List.mem_of_getElem? (i := 1074) (by decide +kernel), List.mem_of_getElem? (i := 1500) (by decide +kernel), List.mem_of_getElem? (i := 1501) (by decide +kernel)⟩
theorem lw_p85 : lw_okq (⟨"MarkupJudgeModel", "isAt", "(II)Z"⟩, 65) := ⟨⟨by decide +kernel, by decide +kernel⟩, List.mem_of_getElem? (i := 1074) (by decide +kernel), List.mem_of_getElem? (i := 1504) (by decide +kernel), List.mem_of_getElem? (i := 1505) (by decide +kernel)⟩
theorem lw_p86 : lw_okq (⟨"MarkupJudgeModel", "isListed", "(I)Z"⟩, 65) := ⟨⟨by decide +kernel, by decide +kernel⟩, List.mem_of_getElem? (i := 1074) (by decide +kernel), List.mem_of_getElem? (i := 1508) (by decide +kernel), List.mem_of_getElem? (i := 1509) (by decide +kernel)⟩
theorem lw_p87 : lw_okq (⟨"MarkupJudgeModel", "isToken", "()Z"⟩, 65) := ⟨⟨by decide +kernel, by decide +kernel⟩, List.mem_of_getElem? (i := 1074) (by decide +kernel), List.mem_of_getElem? (i := 1512) (by decide +kernel), List.mem_of_getElem? (i := 1513) (by decide +kernel)⟩
theorem lw_p88 : lw_okq (⟨"MarkupJudgeModel", "added", "(II)V"⟩, 65) := ⟨⟨by decide +kernel, by decide +kernel⟩, List.mem_of_getElem? (i := 1074) (by decide +kernel), List.mem_of_getElem? (i := 1516) (by decide +kernel), List.mem_of_getElem? (i := 1517) (by decide +kernel)⟩
theorem lw_p89 : lw_okq (⟨"MarkupJudgeModel", "finish", "()V"⟩, 65) := ⟨⟨by decide +kernel, by decide +kernel⟩, List.mem_of_getElem? (i := 1074) (by decide +kernel), List.mem_of_getElem? (i := 1520) (by decide +kernel), List.mem_of_getElem? (i := 1521) (by decide +kernel)⟩
theorem lw_p90 : lw_okq (⟨"MarkupJudgeModel", "content", "()V"⟩, 65) := ⟨⟨by decide +kernel, by decide +kernel⟩, List.mem_of_getElem? (i := 1074) (by decide +kernel), List.mem_of_getElem? (i := 1524) (by decide +kernel), List.mem_of_getElem? (i := 1525) (by decide +kernel)⟩
theorem lw_p91 : lw_okq (⟨"MarkupJudgeModel", "tail", "()V"⟩, 65) := ⟨⟨by decide +kernel, by decide +kernel⟩, List.mem_of_getElem? (i := 1074) (by decide +kernel), List.mem_of_getElem? (i := 1528) (by decide +kernel), List.mem_of_getElem? (i := 1529) (by decide +kernel)⟩
theorem lw_p92 : lw_okq (⟨"MarkupJudgeModel", "textEvent", "(I)V"⟩, 65) := ⟨⟨by decide +kernel, by decide +kernel⟩, List.mem_of_getElem? (i := 1074) (by decide +kernel), List.mem_of_getElem? (i := 1532) (by decide +kernel), List.mem_of_getElem? (i := 1533) (by decide +kernel)⟩
theorem lw_p93 : lw_okq (⟨"MarkupJudgeModel", "references", "()V"⟩, 65) := ⟨⟨by decide +kernel, by decide +kernel⟩, List.mem_of_getElem? (i := 1074) (by decide +kernel), List.mem_of_getElem? (i := 1536) (by decide +kernel), List.mem_of_getElem? (i := 1537) (by decide +kernel)⟩
theorem lw_p94 : lw_okq (⟨"MarkupJudgeModel", "alike", "(II)Z"⟩, 65) := ⟨⟨by decide +kernel, by decide +kernel⟩, List.mem_of_getElem? (i := 1074) (by decide +kernel), List.mem_of_getElem? (i := 1540) (by decide +kernel), List.mem_of_getElem? (i := 1541) (by decide +kernel)⟩
def lw_privs_6 : List (MethodName × Nat) := [(⟨"MarkupJudgeModel", "follows", "(I)V"⟩, 65), (⟨"MarkupJudgeModel", "happens", "(II)V"⟩, 65), (⟨"MarkupJudgeModel", "attributeOf", "(II)I"⟩, 65), (⟨"MarkupJudgeModel", "attributeEvent", "(II)V"⟩, 65), (⟨"MarkupJudgeModel", "say", "(I)V"⟩, 65), (⟨"MarkupJudgeModel", "isAt", "(II)Z"⟩, 65), (⟨"MarkupJudgeModel", "isListed", "(I)Z"⟩, 65), (⟨"MarkupJudgeModel", "isToken", "()Z"⟩, 65), (⟨"MarkupJudgeModel", "added", "(II)V"⟩, 65), (⟨"MarkupJudgeModel", "finish", "()V"⟩, 65), (⟨"MarkupJudgeModel", "content", "()V"⟩, 65), (⟨"MarkupJudgeModel", "tail", "()V"⟩, 65), (⟨"MarkupJudgeModel", "textEvent", "(I)V"⟩, 65), (⟨"MarkupJudgeModel", "references", "()V"⟩, 65), (⟨"MarkupJudgeModel", "alike", "(II)Z"⟩, 65)]
theorem lw_r6 : ∀ q ∈ lw_privs_6, lw_okq q := List.forall_mem_cons.mpr ⟨lw_p80, List.forall_mem_cons.mpr ⟨lw_p81, List.forall_mem_cons.mpr ⟨lw_p82, List.forall_mem_cons.mpr ⟨lw_p83, List.forall_mem_cons.mpr ⟨lw_p84, List.forall_mem_cons.mpr ⟨lw_p85, List.forall_mem_cons.mpr ⟨lw_p86, List.forall_mem_cons.mpr ⟨lw_p87, List.forall_mem_cons.mpr ⟨lw_p88, List.forall_mem_cons.mpr ⟨lw_p89, List.forall_mem_cons.mpr ⟨lw_p90, List.forall_mem_cons.mpr ⟨lw_p91, List.forall_mem_cons.mpr ⟨lw_p92, List.forall_mem_cons.mpr ⟨lw_p93, List.forall_mem_cons.mpr ⟨lw_p94, fun _ h => absurd h List.not_mem_nil⟩⟩⟩⟩⟩⟩⟩⟩⟩⟩⟩⟩⟩⟩⟩
def lw_privs : List (MethodName × Nat) := lw_privs_1 ++ (lw_privs_2 ++ (lw_privs_3 ++ (lw_privs_4 ++ (lw_privs_5 ++ (lw_privs_6)))))
def lw_tbl : List Cond := k2_sels lw_privs ++ tables_1
theorem lw_privs_ok : ∀ q ∈ lw_privs, lw_okq q := by
  show ∀ q ∈ lw_privs_1 ++ (lw_privs_2 ++ (lw_privs_3 ++ (lw_privs_4 ++ (lw_privs_5 ++ (lw_privs_6))))), lw_okq q
  exact List.forall_mem_append.mpr ⟨lw_r1, List.forall_mem_append.mpr ⟨lw_r2, List.forall_mem_append.mpr ⟨lw_r3, List.forall_mem_append.mpr ⟨lw_r4, List.forall_mem_append.mpr ⟨lw_r5, lw_r6⟩⟩⟩⟩⟩
-- ===== end of PART A; then your names; then what follows =====
end
section
/-! CALLS THAT RETURN OR THROW, in one form (over Steps.callFree; the road is that of Back.of_free and of the printed vx_back). -/
/-- a method's code, with or without a table of handlers -/
def am_cw (y : MethodName) (cc : ByteArray) (maxL : Nat) (ret : Option FieldType) (hh : List (Nat × Nat × Nat × Nat)) : Cond := match hh with
  | [] => .code y cc maxL ret
  | hh => .codeWith y cc maxL ret hh
def am_tb (hh : List (Nat × Nat × Nat × Nat)) : List ExceptionTableEntry := hh.map (fun h => { startPc := h.1, endPc := h.2.1, handlerPc := h.2.2.1, catchType := h.2.2.2 })
theorem am_tb_eq (t : List ExceptionTableEntry) : am_tb (t.map (fun h => (h.startPc, h.endPc, h.handlerPc, h.catchType))) = t := by
  induction t with
  | nil => rfl
  | cons a l ih =>
    show _ :: am_tb (l.map _) = a :: l
    rw [ih]
theorem am_cw_spec {y : MethodName} {cc : ByteArray} {maxL : Nat} {ret : Option FieldType} {hh : List (Nat × Nat × Nat × Nat)} {args : Array Value} {s : State} (h : (am_cw y cc maxL ret hh).before args s = true) :
    ∃ m meth c, s.methodNamed? y = some m ∧ s.vm.method? m = some meth ∧ meth.code = some c ∧ c.code = cc ∧ c.maxLocals = maxL ∧ c.exceptionTable.toList = am_tb hh ∧ meth.sig.returnType = ret ∧ meth.locks = false ∧ parseMethodDescriptor y.desc = some meth.sig := by
  unfold am_cw at h
  split at h
  · obtain ⟨m, hn⟩ := Cond.code_named h
    obtain ⟨meth, c, h1, h2, h3, h4, h5, h6, h7, h8⟩ := Cond.code_spec hn h
    exact ⟨m, meth, c, hn, h1, h2, h3, h4, by rw [Array.isEmpty_iff.mp h7]; rfl, h5, h6, h8⟩
  · obtain ⟨m, meth, c, hn, h1, h2, h3, h4, h5, h6, h7, h8⟩ := Cond.codeWith_spec h
    exact ⟨m, meth, c, hn, h1, h2, h3, h4, by rw [← h5, am_tb_eq], h6, h7, h8⟩
/-- what an invocation leaves behind: it returned or threw, and Qc; B: where the cells begin that it may write -/
def am_Q (Qc : Outcome → State → Prop) (mc ms B : Nat) : Array Value → State → Outcome → State → Prop := fun _ st o t =>
  Qc o t ∧ ((∃ v, o = .returned v) ∨ ∃ q, o = .threw q) ∧ st.WarmedH t.vm ∧ ∃ L : List Loc, st.sameButNew ({ t with vm := st.vm } : State) L mc ms ∧ ∀ z ∈ L, B ≤ z.base
def am_Met (l : Launch) (y : MethodName) (w : Cond) (rm : Room) (Pc : Array Value → State → Prop) (Qc : Outcome → State → Prop) (B : Nat) : Prop :=
  MetFree l y (headSpec [w] rm) Pc (fun _ _ _ _ _ => True) (am_Q Qc rm.cells rm.slots B)
/-- what a body owes at its end -/
def am_MQ (below : List Frame) (Qc : Outcome → State → Prop) (mc ms B : Nat) (a : Array Value) (s : State) : State → Prop := fun t =>
  ∃ o, t.status = .running ∧ Ended t below o ∧ am_Q Qc mc ms B a s o t
theorem am_ofW {l : Launch} {y : MethodName} {cc : ByteArray} {maxL : Nat} {ret : Option FieldType} {hh : List (Nat × Nat × Nat × Nat)} {rm : Room} {Pc : Array Value → State → Prop} {Qc : Outcome → State → Prop} {B : Nat}
    (hy : plainName y.cls = true)
    (body : ∀ p e s m args below meth c, p.tables.exec = Jvm.exec → c.code = cc → c.maxLocals = maxL → meth.sig.returnType = ret → meth.locks = false → c.exceptionTable.toList = am_tb hh → s.vm.method? m = some meth → s.methodNamed? y = some m → Pc args s →
      W p l e rm s m args below meth c s.heap [] 0 0 (am_MQ below Qc rm.cells rm.slots B args s) (entryFrame m args maxL)) : am_Met l y (am_cw y cc maxL ret hh) rm Pc Qc B := by
  refine MetFree.of_bodyS (code := cc) (maxLocals := maxL) (ret := ret) hy ?_ ?_
  · intro args s m h hn
    obtain ⟨m9, meth, c, hn9, h1, h2, h3, h4, -, h5, h6, -⟩ := am_cw_spec (atoms_spec (ws := [am_cw y cc maxL ret hh]) h _ List.mem_cons_self)
    cases hn.symm.trans hn9
    exact ⟨meth, c, h1, h2, h3, h4, h5, h6⟩
  · intro p e s m args below meth c s₁ B9 hml hP _
    have hh0 : s₁.heap = s.heap := by rw [B9.state]; rfl
    have ht : c.exceptionTable.toList = am_tb hh := by
      obtain ⟨m9, meth9, c9, hn9, h1, h2, -, -, h5, -⟩ := am_cw_spec (atoms_spec (ws := [am_cw y cc maxL ret hh]) B9.pre _ List.mem_cons_self)
      cases Option.some.inj (hn9.symm.trans B9.named)
      cases Option.some.inj (h1.symm.trans B9.method)
      cases Option.some.inj (h2.symm.trans (Stand.of_body B9).code)
      exact h5
    obtain ⟨t, a1, o, b1, b2, b3⟩ := body p e s m args below meth c B9.exec B9.bytes hml B9.returns B9.notSynchronized ht B9.method B9.named hP s₁ hh0 (Stand.of_body B9)
    exact ⟨t, o, a1, b1, b2, b3⟩
section AmBack
variable {l : Launch} {R : Room} {p : Program} {e : Env} {below : List Frame} {s : State} {sargs : Array Value} {y : MethodName} {len W9 : Nat}
/-- where the walk stands behind a call that ended in t -/
def am_beh (U t : State) : State := ({ U with heap := t.heap, slotsUsed := t.slotsUsed } : State).setVm t.vm
theorem am_back {cc : ByteArray} {maxL : Nat} {ret : Option FieldType} {hh : List (Nat × Nat × Nat × Nat)} {rm : Room} {Pc : Array Value → State → Prop} {Qc : Outcome → State → Prop} {B : Nat}
    (hM : am_Met l y (am_cw y cc maxL ret hh) rm Pc Qc B) (hframes : rm.frames + 1 ≤ R.frames) (hlocals : W9 + (maxL + 11) + rm.locals ≤ R.locals)
    {m : MethodId} {meth : Method} {c : Code} {U : State} {locs : List Loc} {cells slots : Nat} (X : Stand p l e R s m sargs below meth c U locs cells slots)
    {g : JFrame} {ig : Instr} {mk : MethodId} {a : Array Value} (hg : g.method = m) (hsize : g.locals.size = c.maxLocals) (hdg : decode c.code g.pc = .ok (ig, len)) (hW : 2 * g.monitorRoom + (g.stack.map fun v => v.category).sum ≤ W9)
    (hn : U.methodNamed? y = some mk) (hcw : (am_cw y cc maxL ret hh).before a U = true) (hini : (Cond.initialized y.cls).before a U = true) (h4 : cells + rm.cells ≤ R.cells) (h5 : slots + rm.slots ≤ R.slots) (hPc : Pc a (U.calling g mk a)) :
    ∃ (o : Outcome) (t : State) (L : List Loc), Stand p l e R s m sargs below meth c (am_beh U t) (locs ++ L) (cells + rm.cells) (slots + rm.slots) ∧ (∀ z ∈ L, B ≤ z.base) ∧ Qc o t ∧
      ((∃ v, o = .returned v ∧ Steps p.tables e below (doInvoke e (U.setTop g) [] mk a).1 ((am_beh U t).setTop { g with pc := g.pc + len, stack := v.toList ++ g.stack })) ∨
       (∃ q, o = .threw q ∧ Steps p.tables e below (doInvoke e (U.setTop g) [] mk a).1 (((am_beh U t).setTop g).pushFrame (.throwing q)))) := by
  have h1 : (headSpec [am_cw y cc maxL ret hh] rm).pre.before a U = true := atoms_intro fun w hw => by
    cases List.mem_singleton.mp hw
    exact hcw
  obtain ⟨m9, methY, cY, hn9, hmY, hcY, -, hlY, -, -⟩ := am_cw_spec hcw
  cases Option.some.inj (hn9.symm.trans hn)
  obtain ⟨kY, hkY, -⟩ := className_of_methodNamed hn
  have hinitY : kY.init = .initialized := Cond.initialized_spec (findClass_of_methodNamed hn) hkY hini
  have h : At U g.method c below := by rw [hg]; exact X.here
  have happ : (headSpec [am_cw y cc maxL ret hh] rm).appliesLoose y e.platform (U.calling g mk a) = true :=
    Spec.appliesLoose_calling (g := g) h hdg hn hkY hinitY
      (X.room_calling (g := g) (R' := rm) hsize hmY hcY hframes (by rw [hlY]; omega) h4 h5) h1
  obtain ⟨mid, hmid⟩ := h.above
  have hfr : (U.setTop g).frames = (.java g :: mid) ++ below := by rw [State.frames_setTop' g h.top, hmid]; rfl
  obtain ⟨o, s₂, hsteps, -, hend, hq⟩ := Steps.callFree hM p X.admits X.cas X.clock (acts := []) hfr happ hPc trivial
  have hq' : am_Q Qc rm.cells rm.slots B a (U.calling g mk a) o s₂ := hq
  rw [State.frames_setTop' g h.top] at hend
  obtain ⟨g₀, hg0⟩ := Option.isSome_iff_exists.mp h.top
  obtain ⟨r, hr⟩ := State.topJava?_eq_some.mp hg0
  obtain ⟨hqc, ho, hW₂, L, hsm, hL⟩ := hq'
  obtain ⟨e2, q2, q3, q4, q5, q6⟩ := id hsm
  have e3 : s₂ = ({ (U.calling g mk a).setFrames s₂.frames with heap := s₂.heap, slotsUsed := s₂.slotsUsed } : State).setVm s₂.vm := by
    have : s₂ = ({ s₂ with vm := (U.calling g mk a).vm } : State).setVm s₂.vm := rfl
    rw [e2] at this
    exact this
  have hW' : U.WarmedH s₂.vm := hW₂
  have hr' : (am_beh U s₂).frames = .java g₀ :: r := hr
  have hsame : U.sameButNew ({ U with heap := s₂.heap, slotsUsed := s₂.slotsUsed } : State) L rm.cells rm.slots := by
    refine ⟨?_, q2, q3, q4, q5, q6⟩
    obtain ⟨t, ht, -⟩ := State.frames_cons hr
    show ({ U with heap := s₂.heap, slotsUsed := s₂.slotsUsed } : State) = { U.setFrames U.frames with heap := s₂.heap, slotsUsed := s₂.slotsUsed }
    rw [State.setFrames_self ht]
  have X2 : Stand p l e R s m sargs below meth c (am_beh U s₂) (locs ++ L) (cells + rm.cells) (slots + rm.slots) :=
    ⟨X.admits, X.cas, X.clock, X.frames, X.room, X.hears, X.method, X.code, (X.here.setHeapUsed s₂.heap s₂.slotsUsed).setVm hW'.alike, X.tail, State.WarmedH.trans X.warmed hW', X.limits, X.bytes, X.same.trans (hsame.setVm s.vm)⟩
  refine ⟨o, s₂, L, X2, hL, hqc, ?_⟩
  rcases ho with ⟨v, rfl⟩ | ⟨q, rfl⟩
  · left
    obtain ⟨c₂, i₂, len₂, hc₂, hd₂, hf₂⟩ := hend
    have hcc : c₂ = c := by
      have h1 : s₂.code? g.method = U.code? g.method := by
        rw [State.code?_eq, State.code?_eq, hW'.alike.method?]
      exact Option.some.inj (hc₂.symm.trans (h1.trans h.code))
    subst hcc
    have hlen : len₂ = len := by rw [hdg] at hd₂; cases hd₂; rfl
    subst hlen
    have hs₂ : s₂ = (am_beh U s₂).setTop { g with pc := g.pc + len₂, stack := v.toList ++ g.stack } := by
      refine e3.trans ?_
      rw [hf₂, State.calling_eq h.top, State.setFrames_setFrames, State.setTop_of_frames _ hr', hr]
      rfl
    refine ⟨v, rfl, ?_⟩
    rw [← hs₂]
    exact hsteps
  · right
    have hf₂ : s₂.frames = .throwing q :: .java g :: U.frames.tail := hend
    have hs₂ : s₂ = ((am_beh U s₂).setTop g).pushFrame (.throwing q) := by
      refine e3.trans ?_
      rw [hf₂, State.calling_eq h.top, State.setFrames_setFrames, State.pushFrame, State.frames_setTop _ hr', State.setTop_of_frames _ hr', State.setFrames_setFrames, hr]
      rfl
    refine ⟨q, rfl, ?_⟩
    rw [← hs₂]
    exact hsteps
end AmBack
end
section
/-! ROWS OF W FOR CALLS, THROWS AND CATCHES. What bears the names vx_ is printed text of TURN (NAMES.whole), its 'open Bundle' spelt out. -/
section VXE
variable {p : Program} {l : Launch} {e : Env} {R : Room} {s : State} {m : MethodId} {args : Array Value} {below : List Frame} {meth : Method} {c : Code} {H : Heap} {locs : List Loc} {cells slots : Nat} {Q : State → Prop}
theorem vx_frame {U : State} {k n : Nat} (h : s.sameButNew ({ U with vm := s.vm } : State) locs k n) : s.heap.size ≤ U.heap.size ∧ ∀ q : Nat, q < s.heap.size → (∀ z ∈ locs, z.base ≠ q) → U.heap[q]? = s.heap[q]? := by
  obtain ⟨-, h2, -, -, -, h6⟩ := h
  refine ⟨h2, fun q hq hz => ?_⟩
  obtain ⟨c9, e1, e2, e3, e4⟩ := h6 q _ (Array.getElem?_eq_getElem hq)
  have hs : c9.slots = (s.heap[q]).slots := Array.ext_getElem? fun i => e4 i fun hm => hz _ hm rfl
  have h9 : c9 = s.heap[q] := by
    rw [hs] at e2
    exact e2
  have e5 : U.heap[q]? = some c9 := e1
  rw [e5, h9, Array.getElem?_eq_getElem hq]
/-- the words of a throw but the four that speak of the heap -/
def vx_no (w : Cond) : Bool := decide (w ≠ .isRef (.static Bundle.tN "UNASSIGNED_STACK" Bundle.steD)) && decide (w ≠ .isRef (.static Bundle.tN "SUPPRESSED_SENTINEL" Bundle.listD)) && decide (w ≠ .laysStatic Bundle.tN "UNASSIGNED_STACK" Bundle.steD) && decide (w ≠ .laysStatic Bundle.tN "SUPPRESSED_SENTINEL" Bundle.listD)
def vx_at0 (own : String) (ic : Nat) (X : String) (names : List String) : List Cond := (Bundle.ownAtoms0 own ic X names).filter vx_no
def vx_atS (own : String) (ic : Nat) (X : String) (names : List String) : List Cond := (Bundle.ownAtoms own ic X names).filter vx_no
/-- a word that the tables alone decide, or a good one -/
def vx_ot (w : Cond) : Bool := w.onTables || goodWord w
theorem vx_ot_at {args a' : Array Value} {s U : State} {w : Cond} (hW : s.WarmedH U.vm) (hvm : s.vm = U.vm) (hg : vx_ot w = true) (h : w.before args s = true) : w.before a' U = true := by
  simp only [vx_ot, Bool.or_eq_true] at hg
  rcases hg with hg | hg
  · exact va_tabs hg hvm h
  · exact word_at hW (good_of_word hg) h
/-- a list's words: the good ones out of the method's own list, the others by premises of their own -/
theorem vx_hat {args : Array Value} {s : State} {L B : List Cond} (h1 : ∀ w ∈ L.filter goodWord, w.before args s = true) (h2 : ∀ w ∈ L.filter (fun w => !goodWord w), w ∈ B) (h3 : ∀ w ∈ B, w.before args s = true) : ∀ w ∈ L, w.before args s = true := by
  intro w hw
  by_cases g : goodWord w = true
  · exact h1 w (List.mem_filter.mpr ⟨hw, g⟩)
  · refine h3 w (h2 w (List.mem_filter.mpr ⟨hw, ?_⟩))
    show (!goodWord w) = true
    cases hgw : goodWord w
    · rfl
    · exact absurd hgw g
theorem vx_c {args : Array Value} {s : State} {w : Cond} {B : List Cond} (h : w.before args s = true) (t : ∀ w ∈ B, w.before args s = true) : ∀ w' ∈ w :: B, w'.before args s = true := fun w' h' => (List.mem_cons.mp h').elim (fun e => by rw [e]; exact h) (t w')
theorem vx_n {args : Array Value} {s : State} : ∀ w ∈ ([] : List Cond), w.before args s = true := fun _ h => nomatch h
theorem vx_own {args : Array Value} {s : State} {L : List Cond} (h1 : ∀ w ∈ L.filter vx_no, w.before args s = true)
    (hU : (Cond.isRef (.static Bundle.tN "UNASSIGNED_STACK" Bundle.steD)).before args s = true) (hN : (Cond.isRef (.static Bundle.tN "SUPPRESSED_SENTINEL" Bundle.listD)).before args s = true)
    (lU : (Cond.laysStatic Bundle.tN "UNASSIGNED_STACK" Bundle.steD).before args s = true) (lN : (Cond.laysStatic Bundle.tN "SUPPRESSED_SENTINEL" Bundle.listD).before args s = true) : ∀ w ∈ L, w.before args s = true := by
  intro w hw
  by_cases e1 : w = .isRef (.static Bundle.tN "UNASSIGNED_STACK" Bundle.steD)
  · rw [e1]; exact hU
  · by_cases e2 : w = .isRef (.static Bundle.tN "SUPPRESSED_SENTINEL" Bundle.listD)
    · rw [e2]; exact hN
    · by_cases e3 : w = .laysStatic Bundle.tN "UNASSIGNED_STACK" Bundle.steD
      · rw [e3]; exact lU
      · by_cases e4 : w = .laysStatic Bundle.tN "SUPPRESSED_SENTINEL" Bundle.listD
        · rw [e4]; exact lN
        · exact h1 w (List.mem_filter.mpr ⟨hw, by unfold vx_no; rw [decide_eq_true e1, decide_eq_true e2, decide_eq_true e3, decide_eq_true e4]; rfl⟩)
/-- where a static field lies, its class's statics cell in H -/
def vx_L (C n d : String) (A : Nat → Prop) (U : State) (H : Heap) : Prop := ∃ (c : ClassId) (k : Class) (i : Nat) (f : Field) (a : Nat) (cell : Cell), U.vm.findClass C = some c ∧ U.fieldFound? C n d = some (c, k, i, f) ∧ f.isStatic = true ∧ k.statics = some a ∧ H[a]? = some cell ∧ cell.vm.isStatics = true ∧ cell.cls = c ∧ f.slot < cell.slots.size ∧ k.staticTypes[f.slot]? = some f.type ∧ ¬ A a
theorem vx_L.moved {C n d : String} {A : Nat → Prop} {u U : State} {H : Heap} (hvm : u.vm.Alike U.vm) (h : vx_L C n d A u H) : vx_L C n d A U H := by
  obtain ⟨c, k, i, f, a, cell, h1, h2, h3, h4, h5, h6, h7, h8, h9, h10⟩ := h
  obtain ⟨k', hi', he⟩ := State.fieldFound?_setVm hvm h2
  exact ⟨c, k', i, f, a, cell, by rw [hvm.findClass]; exact h1, hi', h3, by rw [he]; exact h4, h5, h6, h7, h8, by rw [he]; exact h9, h10⟩
theorem vx_L.kept {C n d : String} {A : Nat → Prop} {U : State} {H H1 : Heap} (h : vx_L C n d A U H) (hq : ∀ a : Nat, a < H.size → ¬ A a → H1[a]? = H[a]?) : vx_L C n d A U H1 := by
  obtain ⟨c, k, i, f, a, cell, h1, h2, h3, h4, h5, h6, h7, h8, h9, h10⟩ := h
  exact ⟨c, k, i, f, a, cell, h1, h2, h3, h4, by rw [hq a (Array.getElem?_eq_some_iff.mp h5).1 h10]; exact h5, h6, h7, h8, h9, h10⟩
theorem vx_L.narrow {C n d : String} {A B : Nat → Prop} {U : State} {H : Heap} (h : vx_L C n d A U H) (hAB : ∀ q, B q → A q) : vx_L C n d B U H := by
  obtain ⟨c, k, i, f, a, cell, h1, h2, h3, h4, h5, h6, h7, h8, h9, h10⟩ := h
  exact ⟨c, k, i, f, a, cell, h1, h2, h3, h4, h5, h6, h7, h8, h9, fun z => h10 (hAB _ z)⟩
theorem vx_L.word {C n d : String} {A : Nat → Prop} {s : State} {args : Array Value} (h : vx_L C n d A s s.heap) : (Cond.laysStatic C n d).before args s = true := by
  obtain ⟨c, k, i, f, a, cell, h1, h2, h3, h4, h5, h6, h7, h8, h9, -⟩ := h
  show (Cond.laysStatic C n d).holds args s none s [] = true
  exact Cond.laysStatic_of h1 h2 h3 h4 h5 h6 h7 h8 h9
/-- .. and what it holds: null or some reference -/
def vx_Zq (C n d : String) (A : Nat → Prop) (U : State) (H : Heap) : Prop := va_Zq C n d A U H ∧ vx_L C n d A U H
theorem vx_Zq.moved {C n d : String} {A : Nat → Prop} {u U : State} {H : Heap} (hvm : u.vm.Alike U.vm) (h : vx_Zq C n d A u H) : vx_Zq C n d A U H := ⟨va_Zq.moved hvm h.1, vx_L.moved hvm h.2⟩
theorem vx_Zq.kept {C n d : String} {A : Nat → Prop} {U : State} {H H1 : Heap} (h : vx_Zq C n d A U H) (hq : ∀ a : Nat, a < H.size → ¬ A a → H1[a]? = H[a]?) : vx_Zq C n d A U H1 := ⟨va_Zq.kept h.1 hq, vx_L.kept h.2 hq⟩
theorem vx_Zq.narrow {C n d : String} {A B : Nat → Prop} {U : State} {H : Heap} (h : vx_Zq C n d A U H) (hAB : ∀ q, B q → A q) : vx_Zq C n d B U H := ⟨va_Zq.narrow h.1 hAB, vx_L.narrow h.2 hAB⟩
theorem vx_Zqof {args : Array Value} {s : State} {C n d : String} {A : Nat → Prop} (hl : (Cond.laysStatic C n d).before args s = true) (hini : (Cond.initialized C).before args s = true) (h : (Cond.isRef (.static C n d)).before args s = true) (hA : ∀ a : Nat, a < s.heap.size → ¬ A a) : vx_Zq C n d A s s.heap := by
  refine ⟨va_Zqof hl hini h hA, ?_⟩
  obtain ⟨c, k, i, f, a, cell, h1, h2, h3, h4, h5, h6, h7, h8, h9⟩ := Cond.laysStatic_spec hl
  exact ⟨c, k, i, f, a, cell, h1, h2, h3, h4, h5, h6, h7, h8, h9, hA a (Array.getElem?_eq_some_iff.mp h5).1⟩
theorem vx_isRef {C n d : String} {v : Value} {A : Nat → Prop} {s : State} {args : Array Value} (h : va_Z C n d v A s s.heap) (hv : v.isRef = true) : (Cond.isRef (.static C n d)).before args s = true := by
  obtain ⟨cf, kf, fi, f, a, cell, h1, h2, h3, h4, h5, h6, h7, -⟩ := h
  have he : (Term.static C n d).eval args s none [] s = some v := by
    simp [Term.eval, State.fieldNamed?, h1, h2, h4, h5, h6, h7]
  simp only [Cond.before, Cond.holds, Cond.value, he]
  cases v <;> simp_all [Value.isRef]
theorem vx_isRefq {C n d : String} {A : Nat → Prop} {s : State} {args : Array Value} (h : va_Zq C n d A s s.heap) : (Cond.isRef (.static C n d)).before args s = true := by
  rcases h with h | ⟨t, h⟩
  · exact vx_isRef h rfl
  · exact vx_isRef h rfl
/-- the same frame, seen from here: as if the method were called anew in this heap -/
theorem vx_rebase {T : State} (X : Stand p l e R s m args below meth c T locs cells slots) {R' : Room} (hf : R'.frames ≤ R.frames) (hl : R'.locals ≤ R.locals) (hc : cells + R'.cells ≤ R.cells) (hs : slots + R'.slots ≤ R.slots) :
    Stand p l e R' ((T.setVm s.vm).setFrames (.invoking m args :: below)) m args below meth c T [] 0 0 := by
  have htop : (T.setVm s.vm).topJava?.isSome := X.here.top
  have hF : ((T.setVm s.vm).setFrames (.invoking m args :: below)).frames = .invoking m args :: below := State.frames_setFrames _ (State.cur_lt_of_top htop)
  obtain ⟨g₀, hg0⟩ := Option.isSome_iff_exists.mp htop
  obtain ⟨r, hr⟩ := State.topJava?_eq_some.mp hg0
  have hl9 : e.platform.stackLimits (T.setVm s.vm).me = e.platform.stackLimits s.me := X.limits
  have hb9 : (T.setVm s.vm).me.stackBytes = s.me.stackBytes := X.bytes
  refine ⟨X.admits, X.cas, X.clock, hF, ?_, X.hears, X.method, X.code, X.here, X.tail, X.warmed, ?_, ?_, ?_⟩
  · have h := X.room
    have hU : ((T.setVm s.vm).setFrames (.invoking m args :: below)).localsInUse = s.localsInUse := by
      rw [State.localsInUse_invoking hF (meth := meth) (c := c) X.method X.code, State.localsInUse_invoking X.frames X.method X.code]
    simp only [State.hasRoom, Bool.and_eq_true, decide_eq_true_eq] at h ⊢
    obtain ⟨⟨⟨⟨h1, h2, h3, h4, h5, h6⟩, h7⟩, h8⟩, h9⟩ := h
    rw [X.frames, List.length_cons] at h2 h3
    have q1 := X.heapSize
    have q2 := X.used
    simp only [hF, hU, List.length_cons, State.stackLimits_setFrames, State.stackBytes_setFrames, hl9, hb9]
    refine ⟨⟨⟨⟨by omega, by omega, by omega, by omega, by omega, h6⟩, ?_⟩, ?_⟩, X.book⟩
    · show T.heap.size + R'.cells ≤ e.platform.maxCells
      omega
    · show T.slotsUsed + R'.slots ≤ e.platform.maxSlots
      omega
  · rw [State.stackLimits_setFrames]; rfl
  · rw [State.stackBytes_setFrames]; rfl
  · refine ⟨?_, Nat.le_refl _, Nat.le_refl _, ?_, ?_, fun a c9 h9 => ⟨c9, h9, rfl, rfl, fun _ _ => rfl⟩⟩
    · obtain ⟨t, ht, -⟩ := State.frames_cons hr
      show T.setVm s.vm = { ((T.setVm s.vm).setFrames (.invoking m args :: below)).setFrames (T.setVm s.vm).frames with heap := T.heap, slotsUsed := T.slotsUsed }
      rw [State.setFrames_setFrames, State.setFrames_self ht]
      rfl
    · show T.slotsUsed = T.slotsUsed + ((T.heap.toList.drop T.heap.size).map (·.slots.size)).sum
      rw [List.drop_eq_nil_of_le (Nat.le_of_eq Array.length_toList)]
      rfl
    · show ((T.heap.toList.drop T.heap.size).map (·.slots.size)).sum ≤ 0
      rw [List.drop_eq_nil_of_le (Nat.le_of_eq Array.length_toList)]
      exact Nat.le_refl _
end VXE
/-- a word that stays true while the tables grow warmer -/
def am_w : Cond → Bool
  | .arrayClass _ => true
  | .fieldLinkNest .. => true
  | .methodLinkNest .. => true
  | w => w.onTables && w.keepsFace
theorem am_warm {w : Cond} (hw : am_w w = true) {args a' : Array Value} {s U : State} (hW : s.WarmedH U.vm) (h : w.before args s = true) : w.before a' U = true := by
  have go : (w.onTables && w.keepsFace) = true → w.before a' U = true := fun h9 => by
    simp only [Bool.and_eq_true] at h9
    exact va_tabs h9.1 (rfl : (s.setVm U.vm).vm = U.vm) (Cond.before_shiftedFace (State.Shifted.of_warmed hW) w h9.2 h)
  cases w with
  | arrayClass ty => exact word_at hW (Or.inr ⟨_, rfl⟩) h
  | fieldLinkNest a i b n d h9 => exact va_Nw.use rfl (va_Nw.warmF hW (va_Nw.of rfl h))
  | methodLinkNest a i x h9 => exact va_Nw.use rfl (va_Nw.warmM hW (va_Nw.of rfl h))
  | _ => exact go hw
section AmRows
variable {p : Program} {l : Launch} {e : Env} {R : Room} {s : State} {m : MethodId} {args : Array Value} {below : List Frame} {meth : Method} {c : Code} {H : Heap} {locs : List Loc} {cells slots : Nat} {Q : State → Prop}
/-- the method's frame g, with q thrown over it -/
def am_X (p : Program) (l : Launch) (e : Env) (R : Room) (s : State) (m : MethodId) (args : Array Value) (below : List Frame) (meth : Method) (c : Code) (H : Heap) (locs : List Loc) (cells slots : Nat) (Q : State → Prop) (g : JFrame) (q : Addr) : Prop :=
  ∀ T : State, T.heap = H → Stand p l e R s m args below meth c T locs cells slots → ∃ t, Steps p.tables e below ((T.setTop g).pushFrame (.throwing q)) t ∧ Q t
/-- an invoking instruction has linked: the call of mk is all that is left of it -/
def am_inv (p : Program) (l : Launch) (e : Env) (R : Room) (s : State) (m : MethodId) (args : Array Value) (below : List Frame) (meth : Method) (c : Code) (T : State) (locs : List Loc) (cells slots : Nat) (g : JFrame) (rest : List Value) (y : MethodName) (a : Array Value) : Prop :=
  ∃ (vm₁ : Vm) (mk : MethodId), Stand p l e R s m args below meth c (T.setVm vm₁) locs cells slots ∧ (T.setVm vm₁).methodNamed? y = some mk ∧
    ∀ target, Steps p.tables e below (doInvoke e ((T.setVm vm₁).setTop { g with stack := rest }) [] mk a).1 target → Steps p.tables e below (T.setTop g) target
theorem am_invV {T : State} (X : Stand p l e R s m args below meth c T locs cells slots) (hexec : p.tables.exec = Jvm.exec) {own C : String} {index : Nat} {y : MethodName} {cc : ByteArray} {maxL : Nat} {ret : Option FieldType} {hh : List (Nat × Nat × Nat × Nat)}
    (hown : s.vm.findClass own = some m.cls) (hlink : (Cond.methodLink own index y).before args s = true ∨ ∃ host, (Cond.methodLinkNest own index y host).before args s = true) (hinst : (Cond.instanceMethod y).before args s = true) (hsel : (Cond.selects C y y).before args s = true)
    (hcode : (am_cw y cc maxL ret hh).before args s = true) (hy : y.cls ≠ "java/lang/invoke/MethodHandle" ∧ y.cls ≠ "java/lang/invoke/VarHandle")
    {b : Addr} {cellB : Cell} (hcell : T.heap[b]? = some cellB) (hobj : cellB.vm.isStatics = false) (hcls : s.vm.findClass C = some cellB.cls)
    {g : JFrame} (hg : g.method = m) {argsL rest : List Value} (hlen : ∀ sig, parseMethodDescriptor y.desc = some sig → argsL.length = sig.parameters.length)
    (hstack : g.stack = argsL.reverse ++ .ref b :: rest) (hdg : decode c.code g.pc = .ok (.invokevirtual index, 3)) :
    am_inv p l e R s m args below meth c T locs cells slots g rest y (Value.ref b :: argsL).toArray := by
  obtain ⟨mk, methM, hnamed, hmethM, hstM, habM⟩ := Cond.instanceMethod_spec hinst
  obtain ⟨m8, methM', cM, hn8, hmethM', -, -, -, -, -, -, hsigM⟩ := am_cw_spec hcode
  cases Option.some.inj (hn8.symm.trans hnamed)
  cases hmethM.symm.trans hmethM'
  obtain ⟨c2, r2, m2, q1, q2, q3, q4, kP, hkP, hkPi⟩ := Cond.selects_spec hsel
  cases hcls.symm.trans q1
  cases (State.methodFound?_of_named hnamed hy).symm.trans q2
  cases hnamed.symm.trans q3
  have hselP : selectMethod e.platform s.vm cellB.cls mk = .method mk := by rw [Launch.admits_selectMethod X.admits]; exact q4
  rcases hlink with hlink | ⟨host, hlink⟩
  · obtain ⟨vm₁, X₁, hstep₁⟩ := X.invokevirtual hexec hown hlink hnamed hmethM hstM hkP hkPi hy (a := b) (cell := cellB) hcell
      (fun z h => by rw [h] at hobj; cases hobj) hselP hmethM habM hkP hkPi (g := g) hg (argsL := argsL) (rest := rest) (hlen _ hsigM) hstack hdg
    exact ⟨vm₁, mk, X₁, X₁.named hnamed, fun target h => hstep₁ _ fun acts => by rw [doInvoke_state]; exact h⟩
  · obtain ⟨vm₁, X₁, hstep₁⟩ := X.invokevirtualNest hexec hown hlink hnamed hmethM hstM hkP hkPi hy (a := b) (cell := cellB) hcell
      (fun z h => by rw [h] at hobj; cases hobj) hselP hmethM habM hkP hkPi (g := g) hg (argsL := argsL) (rest := rest) (hlen _ hsigM) hstack hdg
    exact ⟨vm₁, mk, X₁, X₁.named hnamed, fun target h => hstep₁ _ fun acts => by rw [doInvoke_state]; exact h⟩
theorem am_invS {T : State} (X : Stand p l e R s m args below meth c T locs cells slots) (hexec : p.tables.exec = Jvm.exec) {own : String} {index : Nat} {y : MethodName} {cc : ByteArray} {maxL : Nat} {ret : Option FieldType} {hh : List (Nat × Nat × Nat × Nat)}
    (hown : s.vm.findClass own = some m.cls) (hlink : (Cond.methodLink own index y).before args s = true ∨ ∃ host, (Cond.methodLinkNest own index y host).before args s = true) (hstat : (Cond.static y).before args s = true) (hinit : (Cond.initialized y.cls).before args s = true)
    (hcode : (am_cw y cc maxL ret hh).before args s = true) (hy : y.cls ≠ "java/lang/invoke/MethodHandle" ∧ y.cls ≠ "java/lang/invoke/VarHandle")
    {g : JFrame} (hg : g.method = m) {argsL rest : List Value} (hlen : ∀ sig, parseMethodDescriptor y.desc = some sig → argsL.length = sig.parameters.length)
    (hstack : g.stack = argsL.reverse ++ rest) (hdg : decode c.code g.pc = .ok (.invokestatic index, 3)) :
    am_inv p l e R s m args below meth c T locs cells slots g rest y argsL.toArray := by
  obtain ⟨mk, methM, cM, hnamed, hmethM, -, -, -, -, -, -, hsigM⟩ := am_cw_spec hcode
  have hstatic : methM.isStatic = true := Cond.static_spec hnamed hmethM hstat
  obtain ⟨kP, hkP, -⟩ := className_of_methodNamed hnamed
  have hinitP : kP.init = .initialized := Cond.initialized_spec (findClass_of_methodNamed hnamed) hkP hinit
  rcases hlink with hlink | ⟨host, hlink⟩
  · obtain ⟨vm₁, X₁, hstep₁⟩ := X.invokestatic hexec hown hlink hnamed hmethM hstatic hkP hinitP hy (g := g) hg (argsL := argsL) (rest := rest) (hlen _ hsigM) hstack hdg
    exact ⟨vm₁, mk, X₁, X₁.named hnamed, fun target h => hstep₁ _ fun acts => by rw [doInvoke_state]; exact h⟩
  · obtain ⟨vm₁, X₁, hstep₁⟩ := X.invokestaticNest hexec hown hlink hnamed hmethM hstatic hkP hinitP hy (g := g) hg (argsL := argsL) (rest := rest) (hlen _ hsigM) hstack hdg
    exact ⟨vm₁, mk, X₁, X₁.named hnamed, fun target h => hstep₁ _ fun acts => by rw [doInvoke_state]; exact h⟩
theorem am_invI {T : State} (X : Stand p l e R s m args below meth c T locs cells slots) (hexec : p.tables.exec = Jvm.exec) {own : String} {index : Nat} {y : MethodName} {cc : ByteArray} {maxL : Nat}
    (hown : s.vm.findClass own = some m.cls) (hy1 : y.name = "<init>") (hlink : (Cond.methodLink own index y).before args s = true ∨ ∃ host, (Cond.methodLinkNest own index y host).before args s = true) (hinst : (Cond.instanceMethod y).before args s = true)
    (hcode : (Cond.code y cc maxL none).before args s = true) (hy : y.cls ≠ "java/lang/invoke/MethodHandle" ∧ y.cls ≠ "java/lang/invoke/VarHandle")
    {g : JFrame} (hg : g.method = m) {b : Addr} {argsL rest : List Value} (hlen : ∀ sig, parseMethodDescriptor y.desc = some sig → argsL.length = sig.parameters.length)
    (hstack : g.stack = argsL.reverse ++ .ref b :: rest) (hdg : decode c.code g.pc = .ok (.invokespecial index, 3)) :
    am_inv p l e R s m args below meth c T locs cells slots g rest y (Value.ref b :: argsL).toArray := by
  subst hg
  have hpl : e.platform.magicAccessors = ({} : Platform).magicAccessors := by rw [X.admits.platform]
  rcases hlink with hlink | ⟨host, hlink⟩
  · obtain ⟨mk, methM, cM, kP, vm₁, hnamed, hmethM, hcodeM, -, hlocalsM, -, hkP, -, hW₁, hstep₁⟩ := Steps.initColdArgs (e := e) X.here hexec X.warmed hpl hown hy1 hy hlink hinst hcode (f := g) rfl hlen hstack hdg
    have X₁ := X.noted hW₁
    exact ⟨vm₁, mk, X₁, X₁.named hnamed, fun target h => hstep₁ _ fun acts => by rw [doInvoke_state]; exact h⟩
  · obtain ⟨mk, methM, cM, kP, vm₁, hnamed, hmethM, hcodeM, -, hlocalsM, -, hkP, -, hW₁, hstep₁⟩ := Steps.initColdArgsNest (e := e) X.here hexec X.warmed hpl hown hy1 hy hlink hinst hcode (f := g) rfl hlen hstack hdg
    have X₁ := X.noted hW₁
    exact ⟨vm₁, mk, X₁, X₁.named hnamed, fun target h => hstep₁ _ fun acts => by rw [doInvoke_state]; exact h⟩
/-- A CALL -/
theorem am_call {y : MethodName} {cc : ByteArray} {maxL : Nat} {ret : Option FieldType} {hh : List (Nat × Nat × Nat × Nat)} {rm : Room} {Pc : Array Value → State → Prop} {Qc : Outcome → State → Prop} {B : Nat} {g : JFrame} {rest : List Value} {a : Array Value} {ig : Instr}
    (inv : ∀ T : State, T.heap = H → Stand p l e R s m args below meth c T locs cells slots → am_inv p l e R s m args below meth c T locs cells slots g rest y a)
    (hM : am_Met l y (am_cw y cc maxL ret hh) rm Pc Qc B) (hframes : rm.frames + 1 ≤ R.frames) (hlocals : 8 + (maxL + 11) + rm.locals ≤ R.locals)
    (hg : g.method = m) (hsize : g.locals.size = c.maxLocals) (hdg : decode c.code g.pc = .ok (ig, 3)) (hW : 2 * g.monitorRoom + (rest.map fun v => v.category).sum ≤ 8)
    (hcw : ∀ U : State, s.WarmedH U.vm → (am_cw y cc maxL ret hh).before a U = true) (hini : ∀ U : State, s.WarmedH U.vm → (Cond.initialized y.cls).before a U = true)
    (h4 : cells + rm.cells ≤ R.cells) (h5 : slots + rm.slots ≤ R.slots) (hPc : ∀ (U : State) (g' : JFrame) (mk : MethodId), U.heap = H → s.WarmedH U.vm → Pc a (U.calling g' mk a))
    (kr : ∀ (v : Option Value) (t : State) (L : List Loc), Qc (.returned v) t → (∀ z ∈ L, B ≤ z.base) → W p l e R s m args below meth c t.heap (locs ++ L) (cells + rm.cells) (slots + rm.slots) Q { g with pc := g.pc + 3, stack := v.toList ++ rest })
    (kx : ∀ (q : Addr) (t : State) (L : List Loc), Qc (.threw q) t → (∀ z ∈ L, B ≤ z.base) → am_X p l e R s m args below meth c t.heap (locs ++ L) (cells + rm.cells) (slots + rm.slots) Q { g with stack := rest } q) :
    W p l e R s m args below meth c H locs cells slots Q g := by
  intro T hT X
  obtain ⟨vm₁, mk, X₁, hn, st⟩ := inv T hT X
  obtain ⟨o, t, L, X2, hL, hq, h⟩ := am_back (W9 := 8) (len := 3) hM hframes hlocals X₁ (g := { g with stack := rest }) (ig := ig) (mk := mk) (a := a) hg hsize hdg hW hn (hcw _ X₁.warmed) (hini _ X₁.warmed) h4 h5 (hPc _ _ _ hT X₁.warmed)
  rcases h with ⟨v, rfl, hs⟩ | ⟨q, rfl, hs⟩
  · obtain ⟨t2, a1, b1⟩ := kr v t L hq hL (am_beh (T.setVm vm₁) t) rfl X2
    exact ⟨t2, st _ (hs.trans a1), b1⟩
  · obtain ⟨t2, a1, b1⟩ := kx q t L hq hL (am_beh (T.setVm vm₁) t) rfl X2
    exact ⟨t2, st _ (hs.trans a1), b1⟩
theorem am_mono {Q' : State → Prop} {g : JFrame} (h : W p l e R s m args below meth c H locs cells slots Q g) (hq : ∀ t, Q t → Q' t) : W p l e R s m args below meth c H locs cells slots Q' g := by
  intro T hT X
  obtain ⟨t, a, b⟩ := h T hT X
  exact ⟨t, a, hq t b⟩
/-- thrown on to the caller: no row of this method's table covers the place -/
theorem am_out {pc : Nat} {ls : Array Slot} {rest : List Value} {q : Addr} (hout : ∀ x ∈ c.exceptionTable.toList, covers x pc = false) (hlocks : meth.locks = false)
    (hQ : ∀ t : State, t.status = .running → Ended t below (.threw q) → t.heap = H → s.WarmedH t.vm → s.sameButNew ({ t with vm := s.vm } : State) locs cells slots → Q t) :
    am_X p l e R s m args below meth c H locs cells slots Q (F0 m pc ls rest) q := by
  intro T hT X
  obtain ⟨st1, hrun, hend, hW, hsm⟩ := X.leaveThrown q (g := F0 m pc ls rest) rfl rfl rfl hout hlocks
  exact ⟨_, st1, hQ _ hrun hend hT hW hsm⟩
/-- 'throw new E()': new; dup; invokespecial; athrow (the road is that of the printed vx_throw0; here the heap behind it is told whole) -/
theorem am_throw0 {cc : ByteArray} {pc : Nat} {ls : Array Slot} {rest : List Value} (hexec : p.tables.exec = Jvm.exec) (hb : c.code = cc) (hl : l.stackTraces = false) {own cls : String} {names : List String} {ik ic : Nat} {A : Nat → Prop}
    (hown : s.vm.findClass own = some m.cls) (hcls : Bundle.fit cls = true) (hnames : ∀ n ∈ names, Bundle.fit n = true)
    (hk : (Cond.classLink own ik cls).before args s = true) (hini : (Cond.initialized cls).before args s = true) (hat : ∀ w ∈ vx_at0 own ic cls names, w.before args s = true)
    (hgood : ∀ w ∈ vx_at0 own ic cls names, am_w w = true)
    (hU : vx_Zq Bundle.tN "UNASSIGNED_STACK" Bundle.steD A s s.heap) (hN : vx_Zq Bundle.tN "SUPPRESSED_SENTINEL" Bundle.listD A s s.heap) (hS : va_S A s.heap H locs) (hsize : ls.size = c.maxLocals)
    (d0 : decode cc pc = .ok (.new ik, 3)) (d3 : decode cc (pc + 3) = .ok (.dup, 1)) (d4 : decode cc (pc + 4) = .ok (.invokespecial ic, 3)) (d7 : decode cc (pc + 7) = .ok (.athrow, 1))
    (hout : ∀ x ∈ c.exceptionTable.toList, covers x (pc + 7) = false)
    (hRframes : names.length + 3 < R.frames) (hRlocals : (rest.map fun v => v.category).sum + (13 * (names.length + 1) + 42) ≤ R.locals) (hRcells : cells + 1 ≤ R.cells) (hRslots : slots + 6 ≤ R.slots) (hlocks : meth.locks = false)
    (hQ : ∀ (t : State) (ce : Cell), t.status = .running → Ended t below (.threw H.size) → t.heap.size = H.size + 1 → (∀ q : Nat, q < H.size → t.heap[q]? = H[q]?) → t.heap[H.size]? = some ce → ce.vm = .none → s.vm.findClass cls = some ce.cls →
      s.WarmedH t.vm → s.sameButNew ({ t with vm := s.vm } : State) locs (cells + 1) (slots + 6) → Q t) :
    W p l e R s m args below meth c H locs cells slots Q (F0 m pc ls rest) := by
  intro T hT X
  have htr : e.platform.stackTraces = false := (show e.platform.stackTraces = l.stackTraces by rw [X.admits.platform]).trans hl
  have Y := vx_rebase X (R' := { frames := R.frames, locals := R.locals, cells := 1, slots := 6 }) (Nat.le_refl _) (Nat.le_refl _) hRcells hRslots
  obtain ⟨s', hA⟩ : ∃ z, z = (T.setVm s.vm).setFrames (.invoking m args :: below) := ⟨_, rfl⟩
  rw [← hA] at Y
  have hvm : s'.vm = s.vm := by rw [hA]; rfl
  have hhp : s'.heap = H := by rw [hA]; exact hT
  have hW0 : s.WarmedH s'.vm := by rw [hvm]; exact State.WarmedH.refl s
  have hat' : ∀ w ∈ vx_at0 own ic cls names, w.before args s' = true := fun w hw => am_warm (hgood w hw) hW0 (hat w hw)
  have hk' : (Cond.classLink own ik cls).before args s' = true := am_warm rfl hW0 hk
  have hini' : (Cond.initialized cls).before args s' = true := am_warm rfl hW0 hini
  have hU' : vx_Zq Bundle.tN "UNASSIGNED_STACK" Bundle.steD A s' s'.heap := by rw [hhp]; exact vx_Zq.moved hW0.alike (hU.kept hS.2.1)
  have hN' : vx_Zq Bundle.tN "SUPPRESSED_SENTINEL" Bundle.listD A s' s'.heap := by rw [hhp]; exact vx_Zq.moved hW0.alike (hN.kept hS.2.1)
  have h : ∀ w ∈ Bundle.ownAtoms0 own ic cls names, w.before args s' = true := vx_own hat' (vx_isRefq hU'.1) (vx_isRefq hN'.1) hU'.2.word hN'.2.word
  have hown' : s'.vm.findClass own = some m.cls := by rw [hvm]; exact hown
  have hins : (Cond.instantiable cls 6).before args s' = true := h _ (by simp [Bundle.ownAtoms0])
  obtain ⟨vm₁, cX, kX, hfX, hkX, -, -, X₁, st1⟩ := Y.newCold hexec (own := own) (C := cls) (index := ik) (n := 6) hown' hk' hins hini'
    (g := F0 m pc ls rest) rfl (by rw [hb]; exact d0) (Nat.le_refl _) (Nat.le_refl _)
  generalize hT1 : (T.setVm vm₁).pushCell { cls := cX, slots := kX.instanceTypes.map defaultValue, vm := .none } = T1 at X₁ st1
  have hcat : (Value.ref T.heap.size).category = 1 := rfl
  have hcellA : T1.heap[T.heap.size]? = some (freshCell cX kX) := by rw [← hT1]; exact State.heap_pushCell_size _ _
  have d3' : decode c.code (pc + 3) = .ok (.dup, 1) := by rw [hb]; exact d3
  obtain ⟨U, hsteps, hrun, hend, hW, hsame, ce, hce, hO⟩ := X₁.ctorThrow0 hexec htr (own := own) (cls := cls) (names := names) (ic := ic) hown' hcls hnames h (fun x hx => nomatch hx) hfX hkX hcellA (by rw [hhp, hT]; exact Nat.le_refl _)
    (g := { method := m, pc := pc + 4, locals := ls, stack := .ref T.heap.size :: .ref T.heap.size :: rest, locked := none }) rfl hsize rfl rfl (rest := rest) rfl
    (by rw [hb]; exact d4) (by rw [hb]; exact d7) hout hRframes (by simp only [List.map_cons, List.sum_cons, hcat]; omega) hlocks
  obtain ⟨f1, f2⟩ := vx_frame hsame
  rw [hhp] at f1 f2
  have hup : U.heap.size ≤ H.size + 1 := by
    have h9 := hsame.2.2.1
    rw [hhp] at h9
    exact h9
  have hlo : H.size + 1 ≤ U.heap.size := by
    have h9 := (Array.getElem?_eq_some_iff.mp hce).1
    rw [hT] at h9
    exact h9
  have hWs : s.WarmedH U.vm := State.WarmedH.trans hW0 hW
  have hcl : s.vm.findClass cls = some ce.cls := by
    have h9 := hO.cls
    rw [hvm] at h9
    exact h9
  have hall : s.sameButNew ({ U with vm := s.vm } : State) locs (cells + 1) (slots + 6) := by
    subst hA
    obtain ⟨e1, e2⟩ := hsame
    rw [State.setFrames_setFrames] at e1
    have h2 : (T.setVm s.vm).sameButNew ({ U with vm := s.vm } : State) [] (0 + 1) (0 + 6) := ⟨e1, e2⟩
    have h3 := X.same.trans h2
    rw [List.append_nil] at h3
    exact h3.mono (by omega) (by omega)
  refine ⟨U, ?_, hQ U ce hrun (by rw [← hT]; exact hend) (Nat.le_antisymm hup hlo) (fun q hq => f2 q hq (fun z hz => nomatch hz)) (by rw [← hT]; exact hce) hO.vm hcl hWs hall⟩
  refine st1 _ ?_
  show Steps p.tables e below (T1.setTop { method := m, pc := pc + 3, locals := ls, stack := .ref T.heap.size :: rest, locked := none }) _
  jvm_step X₁.here [X₁.here.top, hexec, d3', Value.category]
  exact hsteps
end AmRows
end
section
/-! AN EXCEPTION CAUGHT BY THE CALLER'S OWN TABLE, its rows linked as the search comes to them (the road is that of the library's Shelf42 rows, which rounds don't hold). -/
section AmCatch
variable {p : Program} {l : Launch} {e : Env} {R : Room} {s : State} {m : MethodId} {args : Array Value} {below : List Frame} {meth : Method} {c : Code} {H : Heap} {locs : List Loc} {cells slots : Nat} {Q : State → Prop}
/-- one row of the table that covers the place: what the search does, by whether the object is of her class -/
theorem am_row {Q : Handler → Pre} {E : CtlPost} {d : Bool} {acts : List Action} {s : State} {f : JFrame} {a : Addr} {x : ExceptionTableEntry} {t : List ExceptionTableEntry} {k : ClassId} {cell : Cell} (hx : covers x f.pc = true) (h0 : x.catchType ≠ 0)
    (hl : s.vm.ClassLinks e.platform f.method.cls x.catchType k) (hcell : s.heap[a]? = some cell) (hobj : ∀ k, cell.vm ≠ .statics k) (hk : ∃ z, s.vm.classes[cell.cls]? = some z) (hc : ∃ z, s.vm.classes[k]? = some z) :
    (s.vm.assignable cell.cls k = true → (wp (findHandler.go f a (x :: t)) Q E e d acts s ↔ Q (.found x.handlerPc) d acts (s.setVm (s.vm.noted f.method.cls x.catchType (.cls k))))) ∧
    (s.vm.assignable cell.cls k = false → (wp (findHandler.go f a (x :: t)) Q E e d acts s ↔ wp (findHandler.go f a t) Q E e d acts (s.setVm (s.vm.noted f.method.cls x.catchType (.cls k))))) := by
  simp only [covers] at hx
  obtain ⟨ha, ht⟩ := (resolveClass_links e.toSetting hl).op (op := VmOp.resolveClass f.method.cls x.catchType) rfl
  have hal : s.vm.Alike (s.vm.noted f.method.cls x.catchType (.cls k)) := (Vm.Alike.refl s.vm).noted _ _ _
  obtain ⟨k1, hk1⟩ := hk
  obtain ⟨k2, hk2⟩ := hc
  obtain ⟨k1', hk1', -⟩ := hal.2.2 _ _ hk1
  obtain ⟨k2', hk2', -⟩ := hal.2.2 _ _ hk2
  constructor
  · intro hfit
    have hfit' : (s.vm.noted f.method.cls x.catchType (.cls k)).assignable cell.cls k = true := by rw [hal.assignable]; exact hfit
    simp [findHandler.go, hx, h0, ha, ht, hcell, hobj, hk1', hk2', hfit', VmOp.dirties, VmOp.acts]
  · intro hno
    have hno' : (s.vm.noted f.method.cls x.catchType (.cls k)).assignable cell.cls k = false := by rw [hal.assignable]; exact hno
    simp [findHandler.go, hx, h0, ha, ht, hcell, hobj, hk1', hk2', hno', VmOp.dirties, VmOp.acts]
theorem am_seek {s₀ : State} {f : JFrame} {a : Addr} {cell : Cell} (hobj : ∀ k, cell.vm ≠ .statics k) (hk0 : ∃ k, s₀.vm.classes[cell.cls]? = some k)
    (x : ExceptionTableEntry) (suf : List ExceptionTableEntry) (hx : covers x f.pc = true) (h0 : x.catchType ≠ 0) {ct : ClassId} (hl : s₀.vm.ClassLinks e.platform f.method.cls x.catchType ct) (hfit : s₀.vm.assignable cell.cls ct = true) :
    ∀ (pre : List ExceptionTableEntry) (S : State), s₀.WarmedH S.vm → S.heap[a]? = some cell → (∀ y ∈ pre, covers y f.pc = false ∨ (y.catchType ≠ 0 ∧ ∃ cn, s₀.vm.ClassLinks e.platform f.method.cls y.catchType cn ∧ s₀.vm.assignable cell.cls cn = false)) →
      ∃ vm', s₀.WarmedH vm' ∧ ∀ (Q : Handler → Pre) (E : CtlPost) (d : Bool) (acts : List Action), wp (findHandler.go f a (pre ++ x :: suf)) Q E e d acts S ↔ Q (.found x.handlerPc) d acts (S.setVm vm') := by
  obtain ⟨k0, hk0⟩ := hk0
  intro pre
  induction pre with
  | nil =>
    intro S hW hcell _
    obtain ⟨k0', hk0', -⟩ := hW.alike.2.2 _ _ hk0
    obtain ⟨dk, _, _, kt, hd, _, _, _, _, hkt, _, hopen⟩ := hl.here
    obtain ⟨kt', hkt', -⟩ := hW.alike.2.2 _ _ hkt
    exact ⟨_, hW.noted hd hopen (State.rightAt_cls hl), fun Q E d acts => by
      rw [List.nil_append]
      exact (am_row hx h0 (hW.classLinks hl) hcell hobj ⟨k0', hk0'⟩ ⟨kt', hkt'⟩).1 (by rw [hW.alike.assignable]; exact hfit)⟩
  | cons y ys ih =>
    intro S hW hcell hpass
    obtain ⟨k0', hk0', -⟩ := hW.alike.2.2 _ _ hk0
    have hrest := fun z hz => hpass z (List.mem_cons_of_mem _ hz)
    by_cases hcov : covers y f.pc = true
    · rcases hpass y (List.mem_cons_self ..) with h | ⟨h9, cn, hln, hno⟩
      · rw [h] at hcov; cases hcov
      · obtain ⟨dk, _, _, kt, hd, _, _, _, _, hkt, _, hopen⟩ := hln.here
        obtain ⟨kt', hkt', -⟩ := hW.alike.2.2 _ _ hkt
        obtain ⟨vm', hW', hq⟩ := ih (S.setVm (S.vm.noted f.method.cls y.catchType (.cls cn))) (hW.noted hd hopen (State.rightAt_cls hln)) hcell hrest
        exact ⟨vm', hW', fun Q E d acts => by
          rw [List.cons_append, (am_row hcov h9 (hW.classLinks hln) hcell hobj ⟨k0', hk0'⟩ ⟨kt', hkt'⟩).2 (by rw [hW.alike.assignable]; exact hno)]
          exact hq Q E d acts⟩
    · obtain ⟨vm', hW', hq⟩ := ih S hW hcell hrest
      exact ⟨vm', hW', fun Q E d acts => by
        rw [List.cons_append, _root_.Jvm.W.findHandler_go_skip (by simpa using hcov)]
        exact hq Q E d acts⟩
/-- CAUGHT by the row x; the rows ahead don't take it -/
theorem am_catch {own name E : String} {ce : Cell} {q : Addr} {pc : Nat} {ls : Array Slot} {rest : List Value} (hown : s.vm.findClass own = some m.cls) (pre : List ExceptionTableEntry) (x : ExceptionTableEntry) (suf : List ExceptionTableEntry) (hsplit : c.exceptionTable.toList = pre ++ x :: suf)
    (hpass : ∀ z ∈ pre, covers z pc = false ∨ (z.catchType ≠ 0 ∧ ∃ nm : String, (Cond.classLink own z.catchType nm).before args s = true ∧ va_Nc E nm s)) (hx : covers x pc = true) (h0 : x.catchType ≠ 0)
    (hlink : (Cond.classLink own x.catchType name).before args s = true) (hcast : (Cond.castable E name).before args s = true) (hcell : H[q]? = some ce) (hv : ce.vm = .none) (hcl : s.vm.findClass E = some ce.cls)
    (kk : W p l e R s m args below meth c H locs cells slots Q (F0 m x.handlerPc ls [.ref q])) : am_X p l e R s m args below meth c H locs cells slots Q (F0 m pc ls rest) q := by
  intro T hT X
  have hpl : e.platform.magicAccessors = ({} : Platform).magicAccessors := by rw [X.admits.platform]
  obtain ⟨c3, c4, hc3, hc4, hasg⟩ := Cond.castable_spec hcast
  cases Option.some.inj (hc3.symm.trans hcl)
  obtain ⟨c5, hc5, hcl5⟩ := Cond.classLink_spec hown hlink e.platform hpl
  cases Option.some.inj (hc4.symm.trans hc5)
  have hcT : T.heap[q]? = some ce := by rw [hT]; exact hcell
  obtain ⟨vm', hW', hq⟩ := am_seek (e := e) (s₀ := s) (f := F0 m pc ls rest) (a := q) (cell := ce) (fun k h => by rw [hv] at h; cases h) (by obtain ⟨k9, h9, -⟩ := Vm.findClass_spec hcl; exact ⟨k9, h9⟩) x suf hx h0 hcl5 hasg pre ((T.setTop (F0 m pc ls rest)).pushFrame (.throwing q)) X.warmed hcT
    (fun z hz => by
      rcases hpass z hz with h | ⟨hz0, nm, hl1, hn1⟩
      · exact Or.inl h
      · obtain ⟨c6, hc6, hcl6⟩ := Cond.classLink_spec hown hl1 e.platform hpl
        obtain ⟨a8, b8, h1, h2, h3⟩ := hn1
        cases Option.some.inj (h1.symm.trans hcl)
        cases Option.some.inj (h2.symm.trans hc6)
        exact Or.inr ⟨hz0, _, hcl6, h3⟩)
  have X' := X.noted hW'
  obtain ⟨t, a1, b1⟩ := kk (T.setVm vm') hT X'
  refine ⟨t, ?_, b1⟩
  obtain ⟨hgo, hw⟩ := At.throwing (g := F0 m pc ls rest) X.here q
  refine Steps.head hgo hw ?_
  rw [stepThread_throwing (frames_entered X.here.top _)]
  have hfind : ∀ (Q : Handler → Pre) (E : CtlPost) (d : Bool) (acts : List Action), wp (findHandler (F0 m pc ls rest) q) Q E e d acts ((T.setTop (F0 m pc ls rest)).pushFrame (.throwing q)) ↔ Q (.found x.handlerPc) d acts (((T.setTop (F0 m pc ls rest)).pushFrame (.throwing q)).setVm vm') := fun Q E d acts => by
    rw [_root_.Jvm.W.findHandler_eq (meth := meth) (code := c) X.method' X.code, hsplit]; exact hq Q E d acts
  have hst : (stepThrowing e ((T.setTop (F0 m pc ls rest)).pushFrame (.throwing q)) q (.java (F0 m pc ls rest) :: T.frames.tail)).1 = (((T.setTop (F0 m pc ls rest)).pushFrame (.throwing q)).setVm vm').setFrames (.java (F0 m x.handlerPc ls [.ref q]) :: T.frames.tail) := by
    simp only [stepThrowing, searchFrame, vmDo]
    generalize hr : Sem.go _ e false [] _ = res
    obtain ⟨as, rfl, ha⟩ := Sem.eq_ok_of hr (a := Handler.found x.handlerPc) (s' := ((T.setTop (F0 m pc ls rest)).pushFrame (.throwing q)).setVm vm') (acts' := []) (by simp [hfind _ _ _ _])
    rfl
  rw [hst]
  obtain ⟨g₀, hg⟩ := Option.isSome_iff_exists.mp X.here.top
  obtain ⟨r, hr⟩ := State.topJava?_eq_some.mp hg
  have hr' : (T.setVm vm').frames = .java g₀ :: r := hr
  rw [State.setTop_of_frames _ hr'] at a1
  have e1 : (((T.setTop (F0 m pc ls rest)).pushFrame (.throwing q)).setVm vm').setFrames (.java (F0 m x.handlerPc ls [.ref q]) :: T.frames.tail) = (T.setVm vm').setFrames (.java (F0 m x.handlerPc ls [.ref q]) :: r) := by
    rw [hr, List.tail_cons, State.pushFrame, State.setTop_of_frames _ hr]
    have h1 : ∀ (u : State) (F G : List Frame), ((u.setFrames F).setVm vm').setFrames G = (u.setVm vm').setFrames G := fun u F G => by
      have h2 : (u.setFrames F).setVm vm' = (u.setVm vm').setFrames F := rfl
      rw [h2, State.setFrames_setFrames]
    rw [h1, h1]
  rw [e1]
  exact a1
end AmCatch
end
section
def RX0 : String := "MarkupJudge$Attributes"
def TX0 : u_T := fun k => match k with
  | 0 => ("MarkupJudge$Attributes", "elements", "[I", true)
  | 1 => ("MarkupJudge$Attributes", "names", "[I", true)
  | 2 => ("MarkupJudge$Attributes", "types", "[I", true)
  | 3 => ("MarkupJudge$Attributes", "rules", "[I", true)
  | 4 => ("MarkupJudge$Attributes", "typeStarts", "[I", true)
  | 5 => ("MarkupJudge$Attributes", "typeEnds", "[I", true)
  | 6 => ("MarkupJudge$Attributes", "starts", "[I", true)
  | 7 => ("MarkupJudge$Attributes", "lengths", "[I", true)
  | 8 => ("MarkupJudge$Attributes", "characters", "[I", true)
  | 9 => ("MarkupJudge$Attributes", "size", "I", false)
  | _ => ("MarkupJudge$Attributes", "filled", "I", false)
def tyX0 : Nat → FieldType := fun k => match k with
  | 0 => .array .int
  | 1 => .array .int
  | 2 => .array .int
  | 3 => .array .int
  | 4 => .array .int
  | 5 => .array .int
  | 6 => .array .int
  | 7 => .array .int
  | 8 => .array .int
  | 9 => .int
  | _ => .int
abbrev wsX00 : List Cond := u_ws RX0 TX0 11
theorem nmX0 : ∀ a, a < 11 → ∀ b, b < 11 → a ≠ b → (TX0 a).2.1 ≠ (TX0 b).2.1 := by decide +kernel
theorem tyX0_ok : ∀ k, k < 11 → parseFieldDescriptor (TX0 k).2.2.1 = some (tyX0 k) := by decide +kernel
abbrev cX0_init : ByteArray := prog_2_method_1_code
def yX0_init : MethodName := ⟨RX0, "<init>", "()V"⟩
abbrev cX0_start : ByteArray := prog_2_method_2_code
def yX0_start : MethodName := ⟨RX0, "start", "()V"⟩
abbrev cX0_find : ByteArray := prog_2_method_3_code
def yX0_find : MethodName := ⟨RX0, "find", "(II)I"⟩
abbrev cX0_add : ByteArray := prog_2_method_4_code
def yX0_add : MethodName := ⟨RX0, "add", "(IIII)V"⟩
abbrev cX0_setTypePlace : ByteArray := prog_2_method_5_code
def yX0_setTypePlace : MethodName := ⟨RX0, "setTypePlace", "(II)V"⟩
abbrev cX0_setValue : ByteArray := prog_2_method_6_code
def yX0_setValue : MethodName := ⟨RX0, "setValue", "([II)V"⟩
abbrev cX0_hasValue : ByteArray := prog_2_method_7_code
def yX0_hasValue : MethodName := ⟨RX0, "hasValue", "(I)Z"⟩
def RX1 : String := "MarkupJudge$Events"
def TX1 : u_T := fun k => match k with
  | 0 => ("MarkupJudge$Events", "kinds", "[I", true)
  | 1 => ("MarkupJudge$Events", "names", "[I", true)
  | 2 => ("MarkupJudge$Events", "starts", "[I", true)
  | 3 => ("MarkupJudge$Events", "lengths", "[I", true)
  | 4 => ("MarkupJudge$Events", "declarations", "[I", true)
  | 5 => ("MarkupJudge$Events", "characters", "[I", true)
  | 6 => ("MarkupJudge$Events", "size", "I", false)
  | _ => ("MarkupJudge$Events", "filled", "I", false)
def tyX1 : Nat → FieldType := fun k => match k with
  | 0 => .array .int
  | 1 => .array .int
  | 2 => .array .int
  | 3 => .array .int
  | 4 => .array .int
  | 5 => .array .int
  | 6 => .int
  | _ => .int
abbrev wsX10 : List Cond := u_ws RX1 TX1 8
theorem nmX1 : ∀ a, a < 8 → ∀ b, b < 8 → a ≠ b → (TX1 a).2.1 ≠ (TX1 b).2.1 := by decide +kernel
theorem tyX1_ok : ∀ k, k < 8 → parseFieldDescriptor (TX1 k).2.2.1 = some (tyX1 k) := by decide +kernel
abbrev cX1_init : ByteArray := prog_3_method_1_code
def yX1_init : MethodName := ⟨RX1, "<init>", "()V"⟩
abbrev cX1_start : ByteArray := prog_3_method_2_code
def yX1_start : MethodName := ⟨RX1, "start", "()V"⟩
abbrev cX1_add : ByteArray := prog_3_method_3_code
def yX1_add : MethodName := ⟨RX1, "add", "(II)V"⟩
abbrev cX1_addAttribute : ByteArray := prog_3_method_4_code
def yX1_addAttribute : MethodName := ⟨RX1, "addAttribute", "(II[III)V"⟩
abbrev cX1_addText : ByteArray := prog_3_method_5_code
def yX1_addText : MethodName := ⟨RX1, "addText", "(I)V"⟩
abbrev cX1_holds : ByteArray := prog_3_method_6_code
def yX1_holds : MethodName := ⟨RX1, "holds", "(I[III)Z"⟩
abbrev cX1_isOfBlanks : ByteArray := prog_3_method_7_code
def yX1_isOfBlanks : MethodName := ⟨RX1, "isOfBlanks", "(I)Z"⟩
abbrev cX1_isToken : ByteArray := prog_3_method_8_code
def yX1_isToken : MethodName := ⟨RX1, "isToken", "(I)Z"⟩
abbrev cX1_beginsWithName : ByteArray := prog_3_method_9_code
def yX1_beginsWithName : MethodName := ⟨RX1, "beginsWithName", "(I)Z"⟩
def RX2 : String := "MarkupJudge$Faults"
def TX2 : u_T := fun k => match k with
  | 0 => ("MarkupJudge$Faults", "source", "LMarkupJudge$Source;", true)
  | 1 => ("MarkupJudge$Faults", "grammar", "LMarkupJudge$Grammar;", true)
  | 2 => ("MarkupJudge$Faults", "attributes", "LMarkupJudge$Attributes;", true)
  | 3 => ("MarkupJudge$Faults", "found", "LMarkupJudge$Events;", true)
  | 4 => ("MarkupJudge$Faults", "openNames", "[I", true)
  | 5 => ("MarkupJudge$Faults", "states", "[I", true)
  | 6 => ("MarkupJudge$Faults", "depth", "I", false)
  | _ => ("MarkupJudge$Faults", "bits", "I", false)
def tyX2 : Nat → FieldType := fun k => match k with
  | 0 => .object "MarkupJudge$Source"
  | 1 => .object "MarkupJudge$Grammar"
  | 2 => .object "MarkupJudge$Attributes"
  | 3 => .object "MarkupJudge$Events"
  | 4 => .array .int
  | 5 => .array .int
  | 6 => .int
  | _ => .int
abbrev wsX20 : List Cond := u_ws RX2 TX2 8
theorem nmX2 : ∀ a, a < 8 → ∀ b, b < 8 → a ≠ b → (TX2 a).2.1 ≠ (TX2 b).2.1 := by decide +kernel
theorem tyX2_ok : ∀ k, k < 8 → parseFieldDescriptor (TX2 k).2.2.1 = some (tyX2 k) := by decide +kernel
abbrev cX2_init : ByteArray := prog_4_method_1_code
def yX2_init : MethodName := ⟨RX2, "<init>", "(LMarkupJudge$Source;LMarkupJudge$Grammar;LMarkupJudge$Events;)V"⟩
abbrev cX2_find : ByteArray := prog_4_method_2_code
def yX2_find : MethodName := ⟨RX2, "find", "()I"⟩
abbrev cX2_tell : ByteArray := prog_4_method_3_code
def yX2_tell : MethodName := ⟨RX2, "tell", "(IZ)V"⟩
abbrev cX2_lookAtModels : ByteArray := prog_4_method_4_code
def yX2_lookAtModels : MethodName := ⟨RX2, "lookAtModels", "()V"⟩
abbrev cX2_lookAtEvent : ByteArray := prog_4_method_5_code
def yX2_lookAtEvent : MethodName := ⟨RX2, "lookAtEvent", "(I)V"⟩
abbrev cX2_modelOf : ByteArray := prog_4_method_6_code
def yX2_modelOf : MethodName := ⟨RX2, "modelOf", "(I)LMarkupJudge$Model;"⟩
abbrev cX2_lookAtBegin : ByteArray := prog_4_method_7_code
def yX2_lookAtBegin : MethodName := ⟨RX2, "lookAtBegin", "(I)V"⟩
abbrev cX2_lookAtText : ByteArray := prog_4_method_8_code
def yX2_lookAtText : MethodName := ⟨RX2, "lookAtText", "(I)V"⟩
abbrev cX2_lookAtEnd : ByteArray := prog_4_method_9_code
def yX2_lookAtEnd : MethodName := ⟨RX2, "lookAtEnd", "()V"⟩
abbrev cX2_lookForRequired : ByteArray := prog_4_method_10_code
def yX2_lookForRequired : MethodName := ⟨RX2, "lookForRequired", "(I)V"⟩
abbrev cX2_hasAttribute : ByteArray := prog_4_method_11_code
def yX2_hasAttribute : MethodName := ⟨RX2, "hasAttribute", "(II)Z"⟩
abbrev cX2_lookAtAttribute : ByteArray := prog_4_method_12_code
def yX2_lookAtAttribute : MethodName := ⟨RX2, "lookAtAttribute", "(II)V"⟩
abbrev cX2_isListed : ByteArray := prog_4_method_13_code
def yX2_isListed : MethodName := ⟨RX2, "isListed", "(III)Z"⟩
abbrev cX2_isIdBefore : ByteArray := prog_4_method_14_code
def yX2_isIdBefore : MethodName := ⟨RX2, "isIdBefore", "(II)Z"⟩
def RX3 : String := "MarkupJudge$Grammar"
def TX3 : u_T := fun k => match k with
  | 0 => ("MarkupJudge$Grammar", "source", "LMarkupJudge$Source;", true)
  | 1 => ("MarkupJudge$Grammar", "nest", "LMarkupJudge$Nest;", true)
  | 2 => ("MarkupJudge$Grammar", "values", "LMarkupJudge$Values;", true)
  | 3 => ("MarkupJudge$Grammar", "modelReader", "LMarkupJudge$ModelReader;", true)
  | 4 => ("MarkupJudge$Grammar", "models", "[LMarkupJudge$Model;", true)
  | 5 => ("MarkupJudge$Grammar", "unused", "LMarkupJudge$Model;", true)
  | 6 => ("MarkupJudge$Grammar", "attributes", "LMarkupJudge$Attributes;", true)
  | 7 => ("MarkupJudge$Grammar", "root", "I", false)
  | _ => ("MarkupJudge$Grammar", "declaredTwice", "Z", false)
def tyX3 : Nat → FieldType := fun k => match k with
  | 0 => .object "MarkupJudge$Source"
  | 1 => .object "MarkupJudge$Nest"
  | 2 => .object "MarkupJudge$Values"
  | 3 => .object "MarkupJudge$ModelReader"
  | 4 => .array (.object "MarkupJudge$Model")
  | 5 => .object "MarkupJudge$Model"
  | 6 => .object "MarkupJudge$Attributes"
  | 7 => .int
  | _ => .boolean
abbrev wsX30 : List Cond := u_ws RX3 TX3 9
theorem nmX3 : ∀ a, a < 9 → ∀ b, b < 9 → a ≠ b → (TX3 a).2.1 ≠ (TX3 b).2.1 := by decide +kernel
theorem tyX3_ok : ∀ k, k < 9 → parseFieldDescriptor (TX3 k).2.2.1 = some (tyX3 k) := by decide +kernel
abbrev cX3_init : ByteArray := prog_5_method_1_code
def yX3_init : MethodName := ⟨RX3, "<init>", "(LMarkupJudge$Source;LMarkupJudge$Nest;LMarkupJudge$Values;)V"⟩
abbrev cX3_read : ByteArray := prog_5_method_2_code
def yX3_read : MethodName := ⟨RX3, "read", "()V"⟩
abbrev cX3_forget : ByteArray := prog_5_method_3_code
def yX3_forget : MethodName := ⟨RX3, "forget", "()V"⟩
abbrev cX3_readHead : ByteArray := prog_5_method_4_code
def yX3_readHead : MethodName := ⟨RX3, "readHead", "()Z"⟩
abbrev cX3_refuseElsewhere : ByteArray := prog_5_method_5_code
def yX3_refuseElsewhere : MethodName := ⟨RX3, "refuseElsewhere", "()V"⟩
abbrev cX3_readElement : ByteArray := prog_5_method_6_code
def yX3_readElement : MethodName := ⟨RX3, "readElement", "()V"⟩
abbrev cX3_readEntity : ByteArray := prog_5_method_7_code
def yX3_readEntity : MethodName := ⟨RX3, "readEntity", "()V"⟩
abbrev cX3_readAttributes : ByteArray := prog_5_method_8_code
def yX3_readAttributes : MethodName := ⟨RX3, "readAttributes", "()V"⟩
abbrev cX3_readAttribute : ByteArray := prog_5_method_9_code
def yX3_readAttribute : MethodName := ⟨RX3, "readAttribute", "(I)V"⟩
abbrev cX3_readType : ByteArray := prog_5_method_10_code
def yX3_readType : MethodName := ⟨RX3, "readType", "()I"⟩
abbrev cX3_readTokens : ByteArray := prog_5_method_11_code
def yX3_readTokens : MethodName := ⟨RX3, "readTokens", "()V"⟩
abbrev cX3_readRule : ByteArray := prog_5_method_12_code
def yX3_readRule : MethodName := ⟨RX3, "readRule", "()I"⟩
abbrev cX3_readClose : ByteArray := prog_5_method_13_code
def yX3_readClose : MethodName := ⟨RX3, "readClose", "()V"⟩
def RX4 : String := "MarkupJudge$Model"
def TX4 : u_T := fun k => match k with
  | 0 => ("MarkupJudge$Model", "kind", "I", false)
  | 1 => ("MarkupJudge$Model", "mixed", "I", false)
  | 2 => ("MarkupJudge$Model", "places", "I", false)
  | 3 => ("MarkupJudge$Model", "names", "[I", true)
  | 4 => ("MarkupJudge$Model", "behind", "[I", true)
  | _ => ("MarkupJudge$Model", "ends", "I", false)
def tyX4 : Nat → FieldType := fun k => match k with
  | 0 => .int
  | 1 => .int
  | 2 => .int
  | 3 => .array .int
  | 4 => .array .int
  | _ => .int
abbrev wsX40 : List Cond := u_ws RX4 TX4 6
theorem nmX4 : ∀ a, a < 6 → ∀ b, b < 6 → a ≠ b → (TX4 a).2.1 ≠ (TX4 b).2.1 := by decide +kernel
theorem tyX4_ok : ∀ k, k < 6 → parseFieldDescriptor (TX4 k).2.2.1 = some (tyX4 k) := by decide +kernel
abbrev cX4_init : ByteArray := prog_6_method_1_code
def yX4_init : MethodName := ⟨RX4, "<init>", "()V"⟩
abbrev cX4_start : ByteArray := prog_6_method_2_code
def yX4_start : MethodName := ⟨RX4, "start", "(I)V"⟩
abbrev cX4_addPlace : ByteArray := prog_6_method_3_code
def yX4_addPlace : MethodName := ⟨RX4, "addPlace", "(I)I"⟩
abbrev cX4_link : ByteArray := prog_6_method_4_code
def yX4_link : MethodName := ⟨RX4, "link", "(II)V"⟩
abbrev cX4_isPlain : ByteArray := prog_6_method_5_code
def yX4_isPlain : MethodName := ⟨RX4, "isPlain", "()Z"⟩
abbrev cX4_areDifferent : ByteArray := prog_6_method_6_code
def yX4_areDifferent : MethodName := ⟨RX4, "areDifferent", "(I)Z"⟩
abbrev cX4_withElement : ByteArray := prog_6_method_7_code
def yX4_withElement : MethodName := ⟨RX4, "withElement", "(II)I"⟩
abbrev cX4_withPlace : ByteArray := prog_6_method_8_code
def yX4_withPlace : MethodName := ⟨RX4, "withPlace", "(II)I"⟩
abbrev cX4_withText : ByteArray := prog_6_method_9_code
def yX4_withText : MethodName := ⟨RX4, "withText", "(IZ)I"⟩
def RX5 : String := "MarkupJudge$ModelReader"
def TX5 : u_T := fun k => match k with
  | 0 => ("MarkupJudge$ModelReader", "source", "LMarkupJudge$Source;", true)
  | 1 => ("MarkupJudge$ModelReader", "firsts", "I", false)
  | 2 => ("MarkupJudge$ModelReader", "lasts", "I", false)
  | _ => ("MarkupJudge$ModelReader", "canBeNothing", "Z", false)
def tyX5 : Nat → FieldType := fun k => match k with
  | 0 => .object "MarkupJudge$Source"
  | 1 => .int
  | 2 => .int
  | _ => .boolean
abbrev wsX50 : List Cond := u_ws RX5 TX5 4
theorem nmX5 : ∀ a, a < 4 → ∀ b, b < 4 → a ≠ b → (TX5 a).2.1 ≠ (TX5 b).2.1 := by decide +kernel
theorem tyX5_ok : ∀ k, k < 4 → parseFieldDescriptor (TX5 k).2.2.1 = some (tyX5 k) := by decide +kernel
abbrev cX5_init : ByteArray := prog_7_method_1_code
def yX5_init : MethodName := ⟨RX5, "<init>", "(LMarkupJudge$Source;)V"⟩
abbrev cX5_read : ByteArray := prog_7_method_2_code
def yX5_read : MethodName := ⟨RX5, "read", "(LMarkupJudge$Model;)V"⟩
abbrev cX5_readMixed : ByteArray := prog_7_method_3_code
def yX5_readMixed : MethodName := ⟨RX5, "readMixed", "(LMarkupJudge$Model;)V"⟩
abbrev cX5_readGroup : ByteArray := prog_7_method_4_code
def yX5_readGroup : MethodName := ⟨RX5, "readGroup", "(LMarkupJudge$Model;I)V"⟩
abbrev cX5_readPart : ByteArray := prog_7_method_5_code
def yX5_readPart : MethodName := ⟨RX5, "readPart", "(LMarkupJudge$Model;I)V"⟩
abbrev cX5_readSign : ByteArray := prog_7_method_6_code
def yX5_readSign : MethodName := ⟨RX5, "readSign", "(LMarkupJudge$Model;)V"⟩
def RX6 : String := "MarkupJudge$Nest"
def TX6 : u_T := fun k => match k with
  | 0 => ("MarkupJudge$Nest", "source", "LMarkupJudge$Source;", true)
  | 1 => ("MarkupJudge$Nest", "textStarts", "[I", true)
  | 2 => ("MarkupJudge$Nest", "textEnds", "[I", true)
  | 3 => ("MarkupJudge$Nest", "marks", "[I", true)
  | 4 => ("MarkupJudge$Nest", "backAt", "[I", true)
  | 5 => ("MarkupJudge$Nest", "backEnd", "[I", true)
  | 6 => ("MarkupJudge$Nest", "depth", "I", false)
  | 7 => ("MarkupJudge$Nest", "limit", "I", false)
  | _ => ("MarkupJudge$Nest", "spent", "I", false)
def tyX6 : Nat → FieldType := fun k => match k with
  | 0 => .object "MarkupJudge$Source"
  | 1 => .array .int
  | 2 => .array .int
  | 3 => .array .int
  | 4 => .array .int
  | 5 => .array .int
  | 6 => .int
  | 7 => .int
  | _ => .int
abbrev wsX60 : List Cond := u_ws RX6 TX6 9
theorem nmX6 : ∀ a, a < 9 → ∀ b, b < 9 → a ≠ b → (TX6 a).2.1 ≠ (TX6 b).2.1 := by decide +kernel
theorem tyX6_ok : ∀ k, k < 9 → parseFieldDescriptor (TX6 k).2.2.1 = some (tyX6 k) := by decide +kernel
abbrev cX6_init : ByteArray := prog_8_method_1_code
def yX6_init : MethodName := ⟨RX6, "<init>", "(LMarkupJudge$Source;)V"⟩
abbrev cX6_start : ByteArray := prog_8_method_2_code
def yX6_start : MethodName := ⟨RX6, "start", "(I)V"⟩
abbrev cX6_declareText : ByteArray := prog_8_method_3_code
def yX6_declareText : MethodName := ⟨RX6, "declareText", "(II)V"⟩
abbrev cX6_openElement : ByteArray := prog_8_method_4_code
def yX6_openElement : MethodName := ⟨RX6, "openElement", "(I)V"⟩
abbrev cX6_closeElement : ByteArray := prog_8_method_5_code
def yX6_closeElement : MethodName := ⟨RX6, "closeElement", "(I)V"⟩
abbrev cX6_enterText : ByteArray := prog_8_method_6_code
def yX6_enterText : MethodName := ⟨RX6, "enterText", "()V"⟩
abbrev cX6_leaveText : ByteArray := prog_8_method_7_code
def yX6_leaveText : MethodName := ⟨RX6, "leaveText", "()V"⟩
abbrev cX6_push : ByteArray := prog_8_method_8_code
def yX6_push : MethodName := ⟨RX6, "push", "(I)V"⟩
abbrev cX6_isBeingRead : ByteArray := prog_8_method_9_code
def yX6_isBeingRead : MethodName := ⟨RX6, "isBeingRead", "(I)Z"⟩
def RX7 : String := "MarkupJudge$Source"
def TX7 : u_T := fun k => match k with
  | 0 => ("MarkupJudge$Source", "text", "[I", true)
  | 1 => ("MarkupJudge$Source", "filled", "I", false)
  | 2 => ("MarkupJudge$Source", "at", "I", false)
  | _ => ("MarkupJudge$Source", "end", "I", false)
def tyX7 : Nat → FieldType := fun k => match k with
  | 0 => .array .int
  | 1 => .int
  | 2 => .int
  | _ => .int
abbrev wsX70 : List Cond := u_ws RX7 TX7 4
theorem nmX7 : ∀ a, a < 4 → ∀ b, b < 4 → a ≠ b → (TX7 a).2.1 ≠ (TX7 b).2.1 := by decide +kernel
theorem tyX7_ok : ∀ k, k < 4 → parseFieldDescriptor (TX7 k).2.2.1 = some (tyX7 k) := by decide +kernel
abbrev cX7_init : ByteArray := prog_9_method_1_code
def yX7_init : MethodName := ⟨RX7, "<init>", "()V"⟩
abbrev cX7_load : ByteArray := prog_9_method_2_code
def yX7_load : MethodName := ⟨RX7, "load", "([II)V"⟩
abbrev cX7_widthOf : ByteArray := prog_9_method_3_code
def yX7_widthOf : MethodName := ⟨RX7, "widthOf", "(I)I"⟩
abbrev cX7_decoded : ByteArray := prog_9_method_4_code
def yX7_decoded : MethodName := ⟨RX7, "decoded", "([IIII)I"⟩
abbrev cX7_append : ByteArray := prog_9_method_5_code
def yX7_append : MethodName := ⟨RX7, "append", "(I)V"⟩
abbrev cX7_peek : ByteArray := prog_9_method_6_code
def yX7_peek : MethodName := ⟨RX7, "peek", "()I"⟩
abbrev cX7_take : ByteArray := prog_9_method_7_code
def yX7_take : MethodName := ⟨RX7, "take", "()I"⟩
abbrev cX7_pass : ByteArray := prog_9_method_8_code
def yX7_pass : MethodName := ⟨RX7, "pass", "(I)V"⟩
abbrev cX7_takeName : ByteArray := prog_9_method_9_code
def yX7_takeName : MethodName := ⟨RX7, "takeName", "()I"⟩
abbrev cX7_looksAt : ByteArray := prog_9_method_10_code
def yX7_looksAt : MethodName := ⟨RX7, "looksAt", "(Ljava/lang/String;)Z"⟩
abbrev cX7_skip : ByteArray := prog_9_method_11_code
def yX7_skip : MethodName := ⟨RX7, "skip", "(Ljava/lang/String;)Z"⟩
abbrev cX7_skipBlanks : ByteArray := prog_9_method_12_code
def yX7_skipBlanks : MethodName := ⟨RX7, "skipBlanks", "()Z"⟩
abbrev cX7_needBlanks : ByteArray := prog_9_method_13_code
def yX7_needBlanks : MethodName := ⟨RX7, "needBlanks", "()V"⟩
abbrev cX7_needToken : ByteArray := prog_9_method_14_code
def yX7_needToken : MethodName := ⟨RX7, "needToken", "()V"⟩
abbrev cX7_skipComment : ByteArray := prog_9_method_15_code
def yX7_skipComment : MethodName := ⟨RX7, "skipComment", "()Z"⟩
abbrev cX7_skipBlanksAndComments : ByteArray := prog_9_method_16_code
def yX7_skipBlanksAndComments : MethodName := ⟨RX7, "skipBlanksAndComments", "()V"⟩
abbrev cX7_takeReference : ByteArray := prog_9_method_17_code
def yX7_takeReference : MethodName := ⟨RX7, "takeReference", "()I"⟩
abbrev cX7_takeNumber : ByteArray := prog_9_method_18_code
def yX7_takeNumber : MethodName := ⟨RX7, "takeNumber", "()I"⟩
def RX8 : String := "MarkupJudge$Tree"
def TX8 : u_T := fun k => match k with
  | 0 => ("MarkupJudge$Tree", "source", "LMarkupJudge$Source;", true)
  | 1 => ("MarkupJudge$Tree", "nest", "LMarkupJudge$Nest;", true)
  | 2 => ("MarkupJudge$Tree", "values", "LMarkupJudge$Values;", true)
  | 3 => ("MarkupJudge$Tree", "attributes", "LMarkupJudge$Attributes;", true)
  | _ => ("MarkupJudge$Tree", "found", "LMarkupJudge$Events;", true)
def tyX8 : Nat → FieldType := fun k => match k with
  | 0 => .object "MarkupJudge$Source"
  | 1 => .object "MarkupJudge$Nest"
  | 2 => .object "MarkupJudge$Values"
  | 3 => .object "MarkupJudge$Attributes"
  | _ => .object "MarkupJudge$Events"
abbrev wsX80 : List Cond := u_ws RX8 TX8 5
theorem nmX8 : ∀ a, a < 5 → ∀ b, b < 5 → a ≠ b → (TX8 a).2.1 ≠ (TX8 b).2.1 := by decide +kernel
theorem tyX8_ok : ∀ k, k < 5 → parseFieldDescriptor (TX8 k).2.2.1 = some (tyX8 k) := by decide +kernel
abbrev cX8_init : ByteArray := prog_10_method_1_code
def yX8_init : MethodName := ⟨RX8, "<init>", "(LMarkupJudge$Source;LMarkupJudge$Nest;LMarkupJudge$Values;LMarkupJudge$Attributes;LMarkupJudge$Events;)V"⟩
abbrev cX8_read : ByteArray := prog_10_method_2_code
def yX8_read : MethodName := ⟨RX8, "read", "()V"⟩
abbrev cX8_readReference : ByteArray := prog_10_method_3_code
def yX8_readReference : MethodName := ⟨RX8, "readReference", "()V"⟩
abbrev cX8_readTag : ByteArray := prog_10_method_4_code
def yX8_readTag : MethodName := ⟨RX8, "readTag", "()V"⟩
abbrev cX8_readAttribute : ByteArray := prog_10_method_5_code
def yX8_readAttribute : MethodName := ⟨RX8, "readAttribute", "(II)I"⟩
abbrev cX8_addDefaults : ByteArray := prog_10_method_6_code
def yX8_addDefaults : MethodName := ⟨RX8, "addDefaults", "(II)V"⟩
abbrev cX8_readEndTag : ByteArray := prog_10_method_7_code
def yX8_readEndTag : MethodName := ⟨RX8, "readEndTag", "()V"⟩
abbrev cX8_endElement : ByteArray := prog_10_method_8_code
def yX8_endElement : MethodName := ⟨RX8, "endElement", "(I)V"⟩
def RX9 : String := "MarkupJudge$Values"
def TX9 : u_T := fun k => match k with
  | 0 => ("MarkupJudge$Values", "source", "LMarkupJudge$Source;", true)
  | 1 => ("MarkupJudge$Values", "nest", "LMarkupJudge$Nest;", true)
  | 2 => ("MarkupJudge$Values", "value", "[I", true)
  | _ => ("MarkupJudge$Values", "length", "I", false)
def tyX9 : Nat → FieldType := fun k => match k with
  | 0 => .object "MarkupJudge$Source"
  | 1 => .object "MarkupJudge$Nest"
  | 2 => .array .int
  | _ => .int
abbrev wsX90 : List Cond := u_ws RX9 TX9 4
theorem nmX9 : ∀ a, a < 4 → ∀ b, b < 4 → a ≠ b → (TX9 a).2.1 ≠ (TX9 b).2.1 := by decide +kernel
theorem tyX9_ok : ∀ k, k < 4 → parseFieldDescriptor (TX9 k).2.2.1 = some (tyX9 k) := by decide +kernel
abbrev cX9_init : ByteArray := prog_11_method_1_code
def yX9_init : MethodName := ⟨RX9, "<init>", "(LMarkupJudge$Source;LMarkupJudge$Nest;)V"⟩
abbrev cX9_read : ByteArray := prog_11_method_2_code
def yX9_read : MethodName := ⟨RX9, "read", "(Z)V"⟩
abbrev cX9_add : ByteArray := prog_11_method_3_code
def yX9_add : MethodName := ⟨RX9, "add", "(I)V"⟩
abbrev cX9_collapse : ByteArray := prog_11_method_4_code
def yX9_collapse : MethodName := ⟨RX9, "collapse", "()V"⟩
def RX10 : String := "MarkupJudge"
def TX10 : u_T := fun k => match k with
  | 0 => ("MarkupJudge", "given", "[I", true)
  | 1 => ("MarkupJudge", "size", "I", false)
  | 2 => ("MarkupJudge", "shown", "I", false)
  | 3 => ("MarkupJudge", "valid", "I", false)
  | 4 => ("MarkupJudge", "faulty", "I", false)
  | 5 => ("MarkupJudge", "thrown", "I", false)
  | 6 => ("MarkupJudge", "source", "LMarkupJudge$Source;", true)
  | 7 => ("MarkupJudge", "nest", "LMarkupJudge$Nest;", true)
  | 8 => ("MarkupJudge", "grammar", "LMarkupJudge$Grammar;", true)
  | 9 => ("MarkupJudge", "found", "LMarkupJudge$Events;", true)
  | 10 => ("MarkupJudge", "tree", "LMarkupJudge$Tree;", true)
  | _ => ("MarkupJudge", "faults", "LMarkupJudge$Faults;", true)
def tyX10 : Nat → FieldType := fun k => match k with
  | 0 => .array .int
  | 1 => .int
  | 2 => .int
  | 3 => .int
  | 4 => .int
  | 5 => .int
  | 6 => .object "MarkupJudge$Source"
  | 7 => .object "MarkupJudge$Nest"
  | 8 => .object "MarkupJudge$Grammar"
  | 9 => .object "MarkupJudge$Events"
  | 10 => .object "MarkupJudge$Tree"
  | _ => .object "MarkupJudge$Faults"
abbrev wsX100 : List Cond := u_ws RX10 TX10 12
theorem nmX10 : ∀ a, a < 12 → ∀ b, b < 12 → a ≠ b → (TX10 a).2.1 ≠ (TX10 b).2.1 := by decide +kernel
theorem tyX10_ok : ∀ k, k < 12 → parseFieldDescriptor (TX10 k).2.2.1 = some (tyX10 k) := by decide +kernel
abbrev cX10_init : ByteArray := prog_1_method_1_code
def yX10_init : MethodName := ⟨RX10, "<init>", "()V"⟩
abbrev cX10_bytes : ByteArray := prog_1_method_2_code
def yX10_bytes : MethodName := ⟨RX10, "bytes", "(JI)I"⟩
abbrev cX10_clear : ByteArray := prog_1_method_3_code
def yX10_clear : MethodName := ⟨RX10, "clear", "()I"⟩
abbrev cX10_judge : ByteArray := prog_1_method_4_code
def yX10_judge : MethodName := ⟨RX10, "judge", "(I)I"⟩
abbrev cX10_events : ByteArray := prog_1_method_5_code
def yX10_events : MethodName := ⟨RX10, "events", "()I"⟩
abbrev cX10_event : ByteArray := prog_1_method_6_code
def yX10_event : MethodName := ⟨RX10, "event", "(II)I"⟩
abbrev cX10_character : ByteArray := prog_1_method_7_code
def yX10_character : MethodName := ⟨RX10, "character", "(II)I"⟩
abbrev cX10_cost : ByteArray := prog_1_method_8_code
def yX10_cost : MethodName := ⟨RX10, "cost", "()I"⟩
abbrev cX10_count : ByteArray := prog_1_method_9_code
def yX10_count : MethodName := ⟨RX10, "count", "(I)I"⟩
abbrev cX10_isCharacter : ByteArray := prog_1_method_10_code
def yX10_isCharacter : MethodName := ⟨RX10, "isCharacter", "(I)Z"⟩
abbrev cX10_isBlank : ByteArray := prog_1_method_11_code
def yX10_isBlank : MethodName := ⟨RX10, "isBlank", "(I)Z"⟩
abbrev cX10_isName : ByteArray := prog_1_method_12_code
def yX10_isName : MethodName := ⟨RX10, "isName", "(I)Z"⟩
abbrev cX10_isDigit : ByteArray := prog_1_method_13_code
def yX10_isDigit : MethodName := ⟨RX10, "isDigit", "(I)Z"⟩
abbrev cX10_isInToken : ByteArray := prog_1_method_14_code
def yX10_isInToken : MethodName := ⟨RX10, "isInToken", "(I)Z"⟩
def RX11 : String := "MarkupJudgeModel"
def TX11 : u_T := fun k => match k with
  | 0 => ("MarkupJudgeModel", "thrown", "I", false)
  | 1 => ("MarkupJudgeModel", "stop", "I", false)
  | 2 => ("MarkupJudgeModel", "limit", "I", false)
  | 3 => ("MarkupJudgeModel", "cost", "I", false)
  | 4 => ("MarkupJudgeModel", "faults", "I", false)
  | 5 => ("MarkupJudgeModel", "counts", "[I", true)
  | 6 => ("MarkupJudgeModel", "octets", "[I", true)
  | 7 => ("MarkupJudgeModel", "many", "I", false)
  | 8 => ("MarkupJudgeModel", "chars", "[I", true)
  | 9 => ("MarkupJudgeModel", "used", "I", false)
  | 10 => ("MarkupJudgeModel", "entity", "[I", true)
  | 11 => ("MarkupJudgeModel", "entityLength", "[I", true)
  | 12 => ("MarkupJudgeModel", "busy", "[Z", true)
  | 13 => ("MarkupJudgeModel", "depth", "I", false)
  | 14 => ("MarkupJudgeModel", "place", "[I", true)
  | 15 => ("MarkupJudgeModel", "end", "[I", true)
  | 16 => ("MarkupJudgeModel", "whose", "[I", true)
  | 17 => ("MarkupJudgeModel", "opened", "[I", true)
  | 18 => ("MarkupJudgeModel", "open", "I", false)
  | 19 => ("MarkupJudgeModel", "element", "[I", true)
  | 20 => ("MarkupJudgeModel", "began", "[I", true)
  | 21 => ("MarkupJudgeModel", "next", "[I", true)
  | 22 => ("MarkupJudgeModel", "mayEnd", "[Z", true)
  | 23 => ("MarkupJudgeModel", "grammar", "Z", false)
  | 24 => ("MarkupJudgeModel", "root", "I", false)
  | 25 => ("MarkupJudgeModel", "kind", "[I", true)
  | 26 => ("MarkupJudgeModel", "mixed", "[I", true)
  | 27 => ("MarkupJudgeModel", "placeName", "[I", true)
  | 28 => ("MarkupJudgeModel", "follow", "[I", true)
  | 29 => ("MarkupJudgeModel", "places", "[I", true)
  | 30 => ("MarkupJudgeModel", "first", "[I", true)
  | 31 => ("MarkupJudgeModel", "last", "[I", true)
  | 32 => ("MarkupJudgeModel", "nothing", "[Z", true)
  | 33 => ("MarkupJudgeModel", "sort", "[I", true)
  | 34 => ("MarkupJudgeModel", "firsts", "[I", true)
  | 35 => ("MarkupJudgeModel", "lasts", "[I", true)
  | 36 => ("MarkupJudgeModel", "nothings", "[Z", true)
  | 37 => ("MarkupJudgeModel", "some", "[Z", true)
  | 38 => ("MarkupJudgeModel", "partFirst", "I", false)
  | 39 => ("MarkupJudgeModel", "partLast", "I", false)
  | 40 => ("MarkupJudgeModel", "partNothing", "Z", false)
  | 41 => ("MarkupJudgeModel", "attributes", "I", false)
  | 42 => ("MarkupJudgeModel", "ofElement", "[I", true)
  | 43 => ("MarkupJudgeModel", "called", "[I", true)
  | 44 => ("MarkupJudgeModel", "type", "[I", true)
  | 45 => ("MarkupJudgeModel", "standard", "[I", true)
  | 46 => ("MarkupJudgeModel", "valueAt", "[I", true)
  | 47 => ("MarkupJudgeModel", "valueLength", "[I", true)
  | 48 => ("MarkupJudgeModel", "tokensFrom", "[I", true)
  | 49 => ("MarkupJudgeModel", "tokensTo", "[I", true)
  | 50 => ("MarkupJudgeModel", "tokens", "I", false)
  | 51 => ("MarkupJudgeModel", "tokenAt", "[I", true)
  | 52 => ("MarkupJudgeModel", "tokenLength", "[I", true)
  | 53 => ("MarkupJudgeModel", "kept", "I", false)
  | 54 => ("MarkupJudgeModel", "pool", "[I", true)
  | 55 => ("MarkupJudgeModel", "size", "I", false)
  | 56 => ("MarkupJudgeModel", "value", "[I", true)
  | 57 => ("MarkupJudgeModel", "events", "I", false)
  | 58 => ("MarkupJudgeModel", "what", "[I", true)
  | 59 => ("MarkupJudgeModel", "name", "[I", true)
  | 60 => ("MarkupJudgeModel", "from", "[I", true)
  | 61 => ("MarkupJudgeModel", "length", "[I", true)
  | 62 => ("MarkupJudgeModel", "special", "[I", true)
  | 63 => ("MarkupJudgeModel", "written", "I", false)
  | _ => ("MarkupJudgeModel", "said", "[I", true)
def tyX11 : Nat → FieldType := fun k => match k with
  | 0 => .int
  | 1 => .int
  | 2 => .int
  | 3 => .int
  | 4 => .int
  | 5 => .array .int
  | 6 => .array .int
  | 7 => .int
  | 8 => .array .int
  | 9 => .int
  | 10 => .array .int
  | 11 => .array .int
  | 12 => .array .boolean
  | 13 => .int
  | 14 => .array .int
  | 15 => .array .int
  | 16 => .array .int
  | 17 => .array .int
  | 18 => .int
  | 19 => .array .int
  | 20 => .array .int
  | 21 => .array .int
  | 22 => .array .boolean
  | 23 => .boolean
  | 24 => .int
  | 25 => .array .int
  | 26 => .array .int
  | 27 => .array .int
  | 28 => .array .int
  | 29 => .array .int
  | 30 => .array .int
  | 31 => .array .int
  | 32 => .array .boolean
  | 33 => .array .int
  | 34 => .array .int
  | 35 => .array .int
  | 36 => .array .boolean
  | 37 => .array .boolean
  | 38 => .int
  | 39 => .int
  | 40 => .boolean
  | 41 => .int
  | 42 => .array .int
  | 43 => .array .int
  | 44 => .array .int
  | 45 => .array .int
  | 46 => .array .int
  | 47 => .array .int
  | 48 => .array .int
  | 49 => .array .int
  | 50 => .int
  | 51 => .array .int
  | 52 => .array .int
  | 53 => .int
  | 54 => .array .int
  | 55 => .int
  | 56 => .array .int
  | 57 => .int
  | 58 => .array .int
  | 59 => .array .int
  | 60 => .array .int
  | 61 => .array .int
  | 62 => .array .int
  | 63 => .int
  | _ => .array .int
abbrev wsX110 : List Cond := u_ws RX11 TX11 65
theorem nmX11 : ∀ a, a < 65 → ∀ b, b < 65 → a ≠ b → (TX11 a).2.1 ≠ (TX11 b).2.1 := by decide +kernel
theorem tyX11_ok : ∀ k, k < 65 → parseFieldDescriptor (TX11 k).2.2.1 = some (tyX11 k) := by decide +kernel
abbrev cX11_init : ByteArray := prog_13_method_1_code
def yX11_init : MethodName := ⟨RX11, "<init>", "()V"⟩
abbrev cX11_thrown : ByteArray := prog_13_method_2_code
def yX11_thrown : MethodName := ⟨RX11, "thrown", "()I"⟩
abbrev cX11_fail : ByteArray := prog_13_method_3_code
def yX11_fail : MethodName := ⟨RX11, "fail", "(I)I"⟩
abbrev cX11_below : ByteArray := prog_13_method_4_code
def yX11_below : MethodName := ⟨RX11, "below", "(II)Z"⟩
abbrev cX11_bytes : ByteArray := prog_13_method_5_code
def yX11_bytes : MethodName := ⟨RX11, "bytes", "(JI)I"⟩
abbrev cX11_clear : ByteArray := prog_13_method_6_code
def yX11_clear : MethodName := ⟨RX11, "clear", "()I"⟩
abbrev cX11_halt : ByteArray := prog_13_method_7_code
def yX11_halt : MethodName := ⟨RX11, "halt", "(I)V"⟩
abbrev cX11_good : ByteArray := prog_13_method_8_code
def yX11_good : MethodName := ⟨RX11, "good", "(I)Z"⟩
abbrev cX11_blank : ByteArray := prog_13_method_9_code
def yX11_blank : MethodName := ⟨RX11, "blank", "(I)Z"⟩
abbrev cX11_follower : ByteArray := prog_13_method_10_code
def yX11_follower : MethodName := ⟨RX11, "follower", "(I)I"⟩
abbrev cX11_decode : ByteArray := prog_13_method_11_code
def yX11_decode : MethodName := ⟨RX11, "decode", "()V"⟩
abbrev cX11_peek : ByteArray := prog_13_method_12_code
def yX11_peek : MethodName := ⟨RX11, "peek", "()I"⟩
abbrev cX11_skip : ByteArray := prog_13_method_13_code
def yX11_skip : MethodName := ⟨RX11, "skip", "()V"⟩
abbrev cX11_need : ByteArray := prog_13_method_14_code
def yX11_need : MethodName := ⟨RX11, "need", "(I)V"⟩
abbrev cX11_word : ByteArray := prog_13_method_15_code
def yX11_word : MethodName := ⟨RX11, "word", "(J)V"⟩
abbrev cX11_blanks : ByteArray := prog_13_method_16_code
def yX11_blanks : MethodName := ⟨RX11, "blanks", "()Z"⟩
abbrev cX11_aBlank : ByteArray := prog_13_method_17_code
def yX11_aBlank : MethodName := ⟨RX11, "aBlank", "()V"⟩
abbrev cX11_letter : ByteArray := prog_13_method_18_code
def yX11_letter : MethodName := ⟨RX11, "letter", "()I"⟩
abbrev cX11_comment : ByteArray := prog_13_method_19_code
def yX11_comment : MethodName := ⟨RX11, "comment", "()V"⟩
abbrev cX11_tokenLetter : ByteArray := prog_13_method_20_code
def yX11_tokenLetter : MethodName := ⟨RX11, "tokenLetter", "(I)Z"⟩
abbrev cX11_numbered : ByteArray := prog_13_method_21_code
def yX11_numbered : MethodName := ⟨RX11, "numbered", "()I"⟩
abbrev cX11_reference : ByteArray := prog_13_method_22_code
def yX11_reference : MethodName := ⟨RX11, "reference", "()I"⟩
abbrev cX11_enter : ByteArray := prog_13_method_23_code
def yX11_enter : MethodName := ⟨RX11, "enter", "(I)V"⟩
abbrev cX11_leave : ByteArray := prog_13_method_24_code
def yX11_leave : MethodName := ⟨RX11, "leave", "()V"⟩
abbrev cX11_quoted : ByteArray := prog_13_method_25_code
def yX11_quoted : MethodName := ⟨RX11, "quoted", "()V"⟩
abbrev cX11_shorten : ByteArray := prog_13_method_26_code
def yX11_shorten : MethodName := ⟨RX11, "shorten", "()V"⟩
abbrev cX11_outside : ByteArray := prog_13_method_27_code
def yX11_outside : MethodName := ⟨RX11, "outside", "()V"⟩
abbrev cX11_doctype : ByteArray := prog_13_method_28_code
def yX11_doctype : MethodName := ⟨RX11, "doctype", "()V"⟩
abbrev cX11_declaration : ByteArray := prog_13_method_29_code
def yX11_declaration : MethodName := ⟨RX11, "declaration", "()V"⟩
abbrev cX11_entityText : ByteArray := prog_13_method_30_code
def yX11_entityText : MethodName := ⟨RX11, "entityText", "()V"⟩
abbrev cX11_type : ByteArray := prog_13_method_31_code
def yX11_type : MethodName := ⟨RX11, "type", "(I)V"⟩
abbrev cX11_token : ByteArray := prog_13_method_32_code
def yX11_token : MethodName := ⟨RX11, "token", "()V"⟩
abbrev cX11_attlist : ByteArray := prog_13_method_33_code
def yX11_attlist : MethodName := ⟨RX11, "attlist", "()V"⟩
abbrev cX11_attribute : ByteArray := prog_13_method_34_code
def yX11_attribute : MethodName := ⟨RX11, "attribute", "(I)V"⟩
abbrev cX11_declared : ByteArray := prog_13_method_35_code
def yX11_declared : MethodName := ⟨RX11, "declared", "(II)I"⟩
abbrev cX11_model : ByteArray := prog_13_method_36_code
def yX11_model : MethodName := ⟨RX11, "model", "()V"⟩
abbrev cX11_mixture : ByteArray := prog_13_method_37_code
def yX11_mixture : MethodName := ⟨RX11, "mixture", "()I"⟩
abbrev cX11_suffix : ByteArray := prog_13_method_38_code
def yX11_suffix : MethodName := ⟨RX11, "suffix", "()V"⟩
abbrev cX11_combine : ByteArray := prog_13_method_39_code
def yX11_combine : MethodName := ⟨RX11, "combine", "(I)V"⟩
abbrev cX11_openGroup : ByteArray := prog_13_method_40_code
def yX11_openGroup : MethodName := ⟨RX11, "openGroup", "(I)V"⟩
abbrev cX11_placeOf : ByteArray := prog_13_method_41_code
def yX11_placeOf : MethodName := ⟨RX11, "placeOf", "(I)V"⟩
abbrev cX11_group : ByteArray := prog_13_method_42_code
def yX11_group : MethodName := ⟨RX11, "group", "()V"⟩
abbrev cX11_behindPart : ByteArray := prog_13_method_43_code
def yX11_behindPart : MethodName := ⟨RX11, "behindPart", "(I)I"⟩
abbrev cX11_apart : ByteArray := prog_13_method_44_code
def yX11_apart : MethodName := ⟨RX11, "apart", "(II)Z"⟩
abbrev cX11_plain : ByteArray := prog_13_method_45_code
def yX11_plain : MethodName := ⟨RX11, "plain", "(I)Z"⟩
abbrev cX11_happens : ByteArray := prog_13_method_46_code
def yX11_happens : MethodName := ⟨RX11, "happens", "(II)V"⟩
abbrev cX11_say : ByteArray := prog_13_method_47_code
def yX11_say : MethodName := ⟨RX11, "say", "(I)V"⟩
abbrev cX11_textEvent : ByteArray := prog_13_method_48_code
def yX11_textEvent : MethodName := ⟨RX11, "textEvent", "(I)V"⟩
abbrev cX11_isToken : ByteArray := prog_13_method_49_code
def yX11_isToken : MethodName := ⟨RX11, "isToken", "()Z"⟩
abbrev cX11_isAt : ByteArray := prog_13_method_50_code
def yX11_isAt : MethodName := ⟨RX11, "isAt", "(II)Z"⟩
abbrev cX11_isListed : ByteArray := prog_13_method_51_code
def yX11_isListed : MethodName := ⟨RX11, "isListed", "(I)Z"⟩
abbrev cX11_attributeEvent : ByteArray := prog_13_method_52_code
def yX11_attributeEvent : MethodName := ⟨RX11, "attributeEvent", "(II)V"⟩
abbrev cX11_follows : ByteArray := prog_13_method_53_code
def yX11_follows : MethodName := ⟨RX11, "follows", "(I)V"⟩
abbrev cX11_start : ByteArray := prog_13_method_54_code
def yX11_start : MethodName := ⟨RX11, "start", "()V"⟩
abbrev cX11_attributeOf : ByteArray := prog_13_method_55_code
def yX11_attributeOf : MethodName := ⟨RX11, "attributeOf", "(II)I"⟩
abbrev cX11_added : ByteArray := prog_13_method_56_code
def yX11_added : MethodName := ⟨RX11, "added", "(II)V"⟩
abbrev cX11_finish : ByteArray := prog_13_method_57_code
def yX11_finish : MethodName := ⟨RX11, "finish", "()V"⟩
abbrev cX11_tail : ByteArray := prog_13_method_58_code
def yX11_tail : MethodName := ⟨RX11, "tail", "()V"⟩
abbrev cX11_content : ByteArray := prog_13_method_59_code
def yX11_content : MethodName := ⟨RX11, "content", "()V"⟩
abbrev cX11_around : ByteArray := prog_13_method_60_code
def yX11_around : MethodName := ⟨RX11, "around", "(Z)V"⟩
abbrev cX11_alike : ByteArray := prog_13_method_61_code
def yX11_alike : MethodName := ⟨RX11, "alike", "(II)Z"⟩
abbrev cX11_references : ByteArray := prog_13_method_62_code
def yX11_references : MethodName := ⟨RX11, "references", "()V"⟩
abbrev cX11_begin : ByteArray := prog_13_method_63_code
def yX11_begin : MethodName := ⟨RX11, "begin", "()V"⟩
abbrev cX11_judge : ByteArray := prog_13_method_64_code
def yX11_judge : MethodName := ⟨RX11, "judge", "(I)I"⟩
abbrev cX11_events : ByteArray := prog_13_method_65_code
def yX11_events : MethodName := ⟨RX11, "events", "()I"⟩
abbrev cX11_event : ByteArray := prog_13_method_66_code
def yX11_event : MethodName := ⟨RX11, "event", "(II)I"⟩
abbrev cX11_character : ByteArray := prog_13_method_67_code
def yX11_character : MethodName := ⟨RX11, "character", "(II)I"⟩
abbrev cX11_cost : ByteArray := prog_13_method_68_code
def yX11_cost : MethodName := ⟨RX11, "cost", "()I"⟩
abbrev cX11_count : ByteArray := prog_13_method_69_code
def yX11_count : MethodName := ⟨RX11, "count", "(I)I"⟩
def RJ0 : String := "java/lang/String"
abbrev cJ0_length_8abf5 : ByteArray := prog_19_method_54_code
def yJ0_length_8abf5 : MethodName := ⟨RJ0, "length", "()I"⟩
abbrev cJ0_charAt_5068e : ByteArray := prog_19_method_56_code
def yJ0_charAt_5068e : MethodName := ⟨RJ0, "charAt", "(I)C"⟩
abbrev cJ0_coder_7d493 : ByteArray := prog_19_method_152_code
def yJ0_coder_7d493 : MethodName := ⟨RJ0, "coder", "()B"⟩
def RL : String := "MarkupJudgeLaw"
abbrev cL_bytes : ByteArray := method_3_code
def yL_bytes : MethodName := ⟨RL, "bytes", "(LMarkupJudge;JI[J)I"⟩
abbrev cL_judge : ByteArray := method_4_code
def yL_judge : MethodName := ⟨RL, "judge", "(LMarkupJudge;I[J)I"⟩
abbrev cL_event : ByteArray := method_5_code
def yL_event : MethodName := ⟨RL, "event", "(LMarkupJudge;II[J)I"⟩
abbrev cL_character : ByteArray := method_6_code
def yL_character : MethodName := ⟨RL, "character", "(LMarkupJudge;II[J)I"⟩
abbrev cL_law : ByteArray := code
def yL_law : MethodName := ⟨RL, "law", "([I)Z"⟩
abbrev vwCl : List vw_C := [(RX0, TX0, 11), (RX1, TX1, 8), (RX2, TX2, 8), (RX3, TX3, 9), (RX4, TX4, 6), (RX5, TX5, 4), (RX6, TX6, 9), (RX7, TX7, 4), (RX8, TX8, 5), (RX9, TX9, 4), (RX10, TX10, 12), (RX11, TX11, 65)]
/-! THE TABLES' WORDS AS THE ABSTRACT MACHINE USES THEM (written by program out of the claim's own names) -/
def am_in (w : Cond) : Prop := w ∈ lw_tbl ∧ am_w w = true
theorem am_inP {w : Cond} (i : Nat) (h : tables_1[i]? = some w) (hw : am_w w = true) : am_in w := ⟨List.mem_append_right _ (List.mem_of_getElem? h), hw⟩
theorem am_inS {y : MethodName} (i n : Nat) (h : lw_privs[i]? = some (y, n)) : am_in (.selects y.cls y y) := ⟨List.mem_append_left _ (List.mem_map.mpr ⟨(y, n), List.mem_of_getElem? h, rfl⟩), rfl⟩
/-- the classes' names, by their numbers -/
def am_R : Nat → String := fun o => match o with
  | 0 => RX0
  | 1 => RX1
  | 2 => RX2
  | 3 => RX3
  | 4 => RX4
  | 5 => RX5
  | 6 => RX6
  | 7 => RX7
  | 8 => RX8
  | 9 => RX9
  | 10 => RX10
  | 11 => RX11
  | _ => RL
def am_ty : Nat → Nat → FieldType := fun o => match o with
  | 0 => tyX0
  | 1 => tyX1
  | 2 => tyX2
  | 3 => tyX3
  | 4 => tyX4
  | 5 => tyX5
  | 6 => tyX6
  | 7 => tyX7
  | 8 => tyX8
  | 9 => tyX9
  | 10 => tyX10
  | _ => tyX11
def am_okC (ci : Nat) (q : vw_C) : Prop := (∀ k, k < q.2.2 → am_in (u_lay q.1 q.2.1 k)) ∧ (∀ k, k < q.2.2 → parseFieldDescriptor (q.2.1 k).2.2.1 = some (am_ty ci k)) ∧ (∀ a, a < q.2.2 → ∀ b, b < q.2.2 → a ≠ b → (q.2.1 a).2.1 ≠ (q.2.1 b).2.1) ∧ am_in (.instantiable q.1 q.2.2) ∧ am_in (.initialized q.1)
theorem am_lay_w (C : String) (T : u_T) (k : Nat) : am_w (u_lay C T k) = true := by
  unfold u_lay
  split <;> rfl
theorem am_c0 : am_okC 0 (RX0, TX0, 11) := ⟨fun k hk => am_inP (([189, 191, 193, 195, 197, 199, 201, 203, 205, 207, 209] : List Nat).getD k 0) ((by decide +kernel : ∀ k, k < 11 → tables_1[([189, 191, 193, 195, 197, 199, 201, 203, 205, 207, 209] : List Nat).getD k 0]? = some (u_lay RX0 TX0 k)) k hk) (am_lay_w _ _ _), tyX0_ok, nmX0, am_inP 157 (by decide +kernel) rfl, am_inP 7 (by decide +kernel) rfl⟩
theorem am_c1 : am_okC 1 (RX1, TX1, 8) := ⟨fun k hk => am_inP (([291, 293, 295, 297, 299, 301, 303, 305] : List Nat).getD k 0) ((by decide +kernel : ∀ k, k < 8 → tables_1[([291, 293, 295, 297, 299, 301, 303, 305] : List Nat).getD k 0]? = some (u_lay RX1 TX1 k)) k hk) (am_lay_w _ _ _), tyX1_ok, nmX1, am_inP 265 (by decide +kernel) rfl, am_inP 9 (by decide +kernel) rfl⟩
theorem am_c2 : am_okC 2 (RX2, TX2, 8) := ⟨fun k hk => am_inP (([344, 346, 348, 350, 352, 354, 356, 358] : List Nat).getD k 0) ((by decide +kernel : ∀ k, k < 8 → tables_1[([344, 346, 348, 350, 352, 354, 356, 358] : List Nat).getD k 0]? = some (u_lay RX2 TX2 k)) k hk) (am_lay_w _ _ _), tyX2_ok, nmX2, am_inP 331 (by decide +kernel) rfl, am_inP 11 (by decide +kernel) rfl⟩
theorem am_c3 : am_okC 3 (RX3, TX3, 9) := ⟨fun k hk => am_inP (([245, 247, 249, 251, 253, 255, 257, 259, 261] : List Nat).getD k 0) ((by decide +kernel : ∀ k, k < 9 → tables_1[([245, 247, 249, 251, 253, 255, 257, 259, 261] : List Nat).getD k 0]? = some (u_lay RX3 TX3 k)) k hk) (am_lay_w _ _ _), tyX3_ok, nmX3, am_inP 120 (by decide +kernel) rfl, am_inP 5 (by decide +kernel) rfl⟩
theorem am_c4 : am_okC 4 (RX4, TX4, 6) := ⟨fun k hk => am_inP (([143, 145, 147, 149, 151, 153] : List Nat).getD k 0) ((by decide +kernel : ∀ k, k < 6 → tables_1[([143, 145, 147, 149, 151, 153] : List Nat).getD k 0]? = some (u_lay RX4 TX4 k)) k hk) (am_lay_w _ _ _), tyX4_ok, nmX4, am_inP 127 (by decide +kernel) rfl, am_inP 6 (by decide +kernel) rfl⟩
theorem am_c5 : am_okC 5 (RX5, TX5, 4) := ⟨fun k hk => am_inP (([222, 224, 226, 228] : List Nat).getD k 0) ((by decide +kernel : ∀ k, k < 4 → tables_1[([222, 224, 226, 228] : List Nat).getD k 0]? = some (u_lay RX5 TX5 k)) k hk) (am_lay_w _ _ _), tyX5_ok, nmX5, am_inP 213 (by decide +kernel) rfl, am_inP 8 (by decide +kernel) rfl⟩
theorem am_c6 : am_okC 6 (RX6, TX6, 9) := ⟨fun k hk => am_inP (([77, 79, 81, 83, 85, 87, 89, 91, 93] : List Nat).getD k 0) ((by decide +kernel : ∀ k, k < 9 → tables_1[([77, 79, 81, 83, 85, 87, 89, 91, 93] : List Nat).getD k 0]? = some (u_lay RX6 TX6 k)) k hk) (am_lay_w _ _ _), tyX6_ok, nmX6, am_inP 60 (by decide +kernel) rfl, am_inP 3 (by decide +kernel) rfl⟩
theorem am_c7 : am_okC 7 (RX7, TX7, 4) := ⟨fun k hk => am_inP (([49, 51, 53, 55] : List Nat).getD k 0) ((by decide +kernel : ∀ k, k < 4 → tables_1[([49, 51, 53, 55] : List Nat).getD k 0]? = some (u_lay RX7 TX7 k)) k hk) (am_lay_w _ _ _), tyX7_ok, nmX7, am_inP 34 (by decide +kernel) rfl, am_inP 2 (by decide +kernel) rfl⟩
theorem am_c8 : am_okC 8 (RX8, TX8, 5) := ⟨fun k hk => am_inP (([319, 321, 323, 325, 327] : List Nat).getD k 0) ((by decide +kernel : ∀ k, k < 5 → tables_1[([319, 321, 323, 325, 327] : List Nat).getD k 0]? = some (u_lay RX8 TX8 k)) k hk) (am_lay_w _ _ _), tyX8_ok, nmX8, am_inP 309 (by decide +kernel) rfl, am_inP 10 (by decide +kernel) rfl⟩
theorem am_c9 : am_okC 9 (RX9, TX9, 4) := ⟨fun k hk => am_inP (([110, 112, 114, 116] : List Nat).getD k 0) ((by decide +kernel : ∀ k, k < 4 → tables_1[([110, 112, 114, 116] : List Nat).getD k 0]? = some (u_lay RX9 TX9 k)) k hk) (am_lay_w _ _ _), tyX9_ok, nmX9, am_inP 97 (by decide +kernel) rfl, am_inP 4 (by decide +kernel) rfl⟩
theorem am_c10 : am_okC 10 (RX10, TX10, 12) := ⟨fun k hk => am_inP (([373, 375, 377, 379, 381, 383, 385, 387, 389, 391, 393, 395] : List Nat).getD k 0) ((by decide +kernel : ∀ k, k < 12 → tables_1[([373, 375, 377, 379, 381, 383, 385, 387, 389, 391, 393, 395] : List Nat).getD k 0]? = some (u_lay RX10 TX10 k)) k hk) (am_lay_w _ _ _), tyX10_ok, nmX10, am_inP 26 (by decide +kernel) rfl, am_inP 1 (by decide +kernel) rfl⟩
theorem am_c11 : am_okC 11 (RX11, TX11, 65) := ⟨fun k hk => am_inP (([1144, 1146, 1148, 1150, 1152, 1154, 1156, 1158, 1160, 1162, 1164, 1166, 1168, 1170, 1172, 1174, 1176, 1178, 1180, 1182, 1184, 1186, 1188, 1190, 1192, 1194, 1196, 1198, 1200, 1202, 1204, 1206, 1208, 1210, 1212, 1214, 1216, 1218, 1220, 1222, 1224, 1226, 1228, 1230, 1232, 1234, 1236, 1238, 1240, 1242, 1244, 1246, 1248, 1250, 1252, 1254, 1256, 1258, 1260, 1262, 1264, 1266, 1268, 1270, 1272] : List Nat).getD k 0) ((by decide +kernel : ∀ k, k < 65 → tables_1[([1144, 1146, 1148, 1150, 1152, 1154, 1156, 1158, 1160, 1162, 1164, 1166, 1168, 1170, 1172, 1174, 1176, 1178, 1180, 1182, 1184, 1186, 1188, 1190, 1192, 1194, 1196, 1198, 1200, 1202, 1204, 1206, 1208, 1210, 1212, 1214, 1216, 1218, 1220, 1222, 1224, 1226, 1228, 1230, 1232, 1234, 1236, 1238, 1240, 1242, 1244, 1246, 1248, 1250, 1252, 1254, 1256, 1258, 1260, 1262, 1264, 1266, 1268, 1270, 1272] : List Nat).getD k 0]? = some (u_lay RX11 TX11 k)) k hk) (am_lay_w _ _ _), tyX11_ok, nmX11, am_inP 1074 (by decide +kernel) rfl, am_inP 12 (by decide +kernel) rfl⟩
theorem am_cl_ok : ∀ (ci : Nat) (q : vw_C), vwCl[ci]? = some q → am_okC ci q := by
  intro ci q h
  match ci, h with
  | 0, h => cases h; exact am_c0
  | 1, h => cases h; exact am_c1
  | 2, h => cases h; exact am_c2
  | 3, h => cases h; exact am_c3
  | 4, h => cases h; exact am_c4
  | 5, h => cases h; exact am_c5
  | 6, h => cases h; exact am_c6
  | 7, h => cases h; exact am_c7
  | 8, h => cases h; exact am_c8
  | 9, h => cases h; exact am_c9
  | 10, h => cases h; exact am_c10
  | 11, h => cases h; exact am_c11
  | k + 12, h => simp [vwCl] at h
end
section
/-! THE METHODS, decoded (by program) -/
abbrev aM := MethodName × ByteArray × Nat × Option FieldType × Nat × List (Nat × Nat × Nat × Nat) × Nat × List (Nat × Instr × Nat)
def am_okI (r : aM) : Prop := ∀ t ∈ r.2.2.2.2.2.2.2, decode r.2.1 t.1 = .ok (t.2.1, t.2.2)
def am_okM (r : aM) : Prop := plainName r.1.cls = true ∧ am_in (am_cw r.1 r.2.1 r.2.2.1 r.2.2.2.1 r.2.2.2.2.2.1) ∧ am_in (.initialized r.1.cls) ∧ am_R r.2.2.2.2.1 = r.1.cls ∧ r.2.2.1 ≤ 30 ∧ (r.1.cls ≠ "java/lang/invoke/MethodHandle" ∧ r.1.cls ≠ "java/lang/invoke/VarHandle") ∧ (parseMethodDescriptor r.1.desc).map (fun d => d.parameters.length) = some r.2.2.2.2.2.2.1
def am_i0 : List (Nat × Instr × Nat) := [(0, .aload_n 0, 1), (1, .invokespecial 3, 3), (4, .aload_n 0, 1), (5, .bipush 45, 2), (7, .newarray .int, 2), (9, .putfield 9, 3), (12, .aload_n 0, 1), (13, .bipush 45, 2), (15, .newarray .int, 2), (17, .putfield 15, 3), (20, .aload_n 0, 1), (21, .bipush 45, 2), (23, .newarray .int, 2), (25, .putfield 18, 3), (28, .aload_n 0, 1), (29, .bipush 45, 2), (31, .newarray .int, 2), (33, .putfield 21, 3), (36, .aload_n 0, 1), (37, .bipush 45, 2), (39, .newarray .int, 2), (41, .putfield 24, 3), (44, .aload_n 0, 1), (45, .bipush 45, 2), (47, .newarray .int, 2), (49, .putfield 27, 3), (52, .aload_n 0, 1), (53, .bipush 45, 2), (55, .newarray .int, 2), (57, .putfield 30, 3), (60, .aload_n 0, 1), (61, .bipush 45, 2), (63, .newarray .int, 2), (65, .putfield 33, 3), (68, .aload_n 0, 1), (69, .sipush 2360, 3), (72, .newarray .int, 2), (74, .putfield 36, 3), (77, .return_, 1)]
def am_m0 : aM := (yX0_init, cX0_init, 1, none, 0, [], 0, am_i0)
theorem am_k0 : am_okM am_m0 := ⟨by decide +kernel, am_inP 160 (by decide +kernel) rfl, am_inP 7 (by decide +kernel) rfl, rfl, by decide, by decide +kernel, by decide +kernel⟩
set_option maxRecDepth 100000 in
theorem am_d0 : am_okI am_m0 := by unfold am_okI; decide +kernel
def am_i1 : List (Nat × Instr × Nat) := [(0, .aload_n 0, 1), (1, .iconst 0, 1), (2, .putfield 39, 3), (5, .aload_n 0, 1), (6, .iconst 0, 1), (7, .putfield 43, 3), (10, .return_, 1)]
def am_m1 : aM := (yX0_start, cX0_start, 1, none, 0, [], 0, am_i1)
theorem am_k1 : am_okM am_m1 := ⟨by decide +kernel, am_inP 549 (by decide +kernel) rfl, am_inP 7 (by decide +kernel) rfl, rfl, by decide, by decide +kernel, by decide +kernel⟩
set_option maxRecDepth 100000 in
theorem am_d1 : am_okI am_m1 := by unfold am_okI; decide +kernel
def am_i2 : List (Nat × Instr × Nat) := [(0, .iconst 0, 1), (1, .istore_n 3, 1), (2, .iload_n 3, 1), (3, .aload_n 0, 1), (4, .getfield 39, 3), (7, .if_icmp .ge 31, 3), (10, .aload_n 0, 1), (11, .getfield 9, 3), (14, .iload_n 3, 1), (15, .iaload, 1), (16, .iload_n 1, 1), (17, .if_icmp .ne 15, 3), (20, .aload_n 0, 1), (21, .getfield 15, 3), (24, .iload_n 3, 1), (25, .iaload, 1), (26, .iload_n 2, 1), (27, .if_icmp .ne 5, 3), (30, .iload_n 3, 1), (31, .ireturn, 1), (32, .iinc 3 1, 3), (35, .goto (-33), 3), (38, .iconst (-1), 1), (39, .ireturn, 1)]
def am_m2 : aM := (yX0_find, cX0_find, 4, some .int, 0, [], 2, am_i2)
theorem am_k2 : am_okM am_m2 := ⟨by decide +kernel, am_inP 781 (by decide +kernel) rfl, am_inP 7 (by decide +kernel) rfl, rfl, by decide, by decide +kernel, by decide +kernel⟩
set_option maxRecDepth 100000 in
theorem am_d2 : am_okI am_m2 := by unfold am_okI; decide +kernel
def am_i3 : List (Nat × Instr × Nat) := [(0, .aload_n 0, 1), (1, .getfield 39, 3), (4, .bipush 45, 2), (6, .if_icmp .lt 11, 3), (9, .new 46, 3), (12, .dup, 1), (13, .invokespecial 48, 3), (16, .athrow, 1), (17, .aload_n 0, 1), (18, .getfield 9, 3), (21, .aload_n 0, 1), (22, .getfield 39, 3), (25, .iload_n 1, 1), (26, .iastore, 1), (27, .aload_n 0, 1), (28, .getfield 15, 3), (31, .aload_n 0, 1), (32, .getfield 39, 3), (35, .iload_n 2, 1), (36, .iastore, 1), (37, .aload_n 0, 1), (38, .getfield 18, 3), (41, .aload_n 0, 1), (42, .getfield 39, 3), (45, .iload_n 3, 1), (46, .iastore, 1), (47, .aload_n 0, 1), (48, .getfield 21, 3), (51, .aload_n 0, 1), (52, .getfield 39, 3), (55, .iload 4, 2), (57, .iastore, 1), (58, .aload_n 0, 1), (59, .getfield 24, 3), (62, .aload_n 0, 1), (63, .getfield 39, 3), (66, .iconst 0, 1), (67, .iastore, 1), (68, .aload_n 0, 1), (69, .getfield 27, 3), (72, .aload_n 0, 1), (73, .getfield 39, 3), (76, .iconst 0, 1), (77, .iastore, 1), (78, .aload_n 0, 1), (79, .getfield 30, 3), (82, .aload_n 0, 1), (83, .getfield 39, 3), (86, .aload_n 0, 1), (87, .getfield 43, 3), (90, .iastore, 1), (91, .aload_n 0, 1), (92, .getfield 33, 3), (95, .aload_n 0, 1), (96, .getfield 39, 3), (99, .iconst 0, 1), (100, .iastore, 1), (101, .aload_n 0, 1), (102, .dup, 1), (103, .getfield 39, 3), (106, .iconst 1, 1), (107, .iadd, 1), (108, .putfield 39, 3), (111, .return_, 1)]
def am_m3 : aM := (yX0_add, cX0_add, 5, none, 0, [], 4, am_i3)
theorem am_k3 : am_okM am_m3 := ⟨by decide +kernel, am_inP 785 (by decide +kernel) rfl, am_inP 7 (by decide +kernel) rfl, rfl, by decide, by decide +kernel, by decide +kernel⟩
set_option maxRecDepth 100000 in
theorem am_d3 : am_okI am_m3 := by unfold am_okI; decide +kernel
def am_i4 : List (Nat × Instr × Nat) := [(0, .aload_n 0, 1), (1, .getfield 39, 3), (4, .ifCond .le 27, 3), (7, .aload_n 0, 1), (8, .getfield 24, 3), (11, .aload_n 0, 1), (12, .getfield 39, 3), (15, .iconst 1, 1), (16, .isub, 1), (17, .iload_n 1, 1), (18, .iastore, 1), (19, .aload_n 0, 1), (20, .getfield 27, 3), (23, .aload_n 0, 1), (24, .getfield 39, 3), (27, .iconst 1, 1), (28, .isub, 1), (29, .iload_n 2, 1), (30, .iastore, 1), (31, .return_, 1)]
def am_m4 : aM := (yX0_setTypePlace, cX0_setTypePlace, 3, none, 0, [], 2, am_i4)
theorem am_k4 : am_okM am_m4 := ⟨by decide +kernel, am_inP 791 (by decide +kernel) rfl, am_inP 7 (by decide +kernel) rfl, rfl, by decide, by decide +kernel, by decide +kernel⟩
set_option maxRecDepth 100000 in
theorem am_d4 : am_okI am_m4 := by unfold am_okI; decide +kernel
def am_i5 : List (Nat × Instr × Nat) := [(0, .aload_n 0, 1), (1, .getfield 39, 3), (4, .ifCond .eq 17, 3), (7, .iload_n 2, 1), (8, .aload_n 0, 1), (9, .getfield 36, 3), (12, .arraylength, 1), (13, .aload_n 0, 1), (14, .getfield 43, 3), (17, .isub, 1), (18, .if_icmp .le 11, 3), (21, .new 46, 3), (24, .dup, 1), (25, .invokespecial 48, 3), (28, .athrow, 1), (29, .aload_n 1, 1), (30, .iconst 0, 1), (31, .aload_n 0, 1), (32, .getfield 36, 3), (35, .aload_n 0, 1), (36, .getfield 43, 3), (39, .iload_n 2, 1), (40, .invokestatic 49, 3), (43, .aload_n 0, 1), (44, .getfield 33, 3), (47, .aload_n 0, 1), (48, .getfield 39, 3), (51, .iconst 1, 1), (52, .isub, 1), (53, .iload_n 2, 1), (54, .iastore, 1), (55, .aload_n 0, 1), (56, .dup, 1), (57, .getfield 43, 3), (60, .iload_n 2, 1), (61, .iadd, 1), (62, .putfield 43, 3), (65, .return_, 1)]
def am_m5 : aM := (yX0_setValue, cX0_setValue, 3, none, 0, [], 2, am_i5)
theorem am_k5 : am_okM am_m5 := ⟨by decide +kernel, am_inP 853 (by decide +kernel) rfl, am_inP 7 (by decide +kernel) rfl, rfl, by decide, by decide +kernel, by decide +kernel⟩
set_option maxRecDepth 100000 in
theorem am_d5 : am_okI am_m5 := by unfold am_okI; decide +kernel
def am_i6 : List (Nat × Instr × Nat) := [(0, .aload_n 0, 1), (1, .getfield 21, 3), (4, .iload_n 1, 1), (5, .iaload, 1), (6, .iconst 2, 1), (7, .if_icmp .eq 13, 3), (10, .aload_n 0, 1), (11, .getfield 21, 3), (14, .iload_n 1, 1), (15, .iaload, 1), (16, .iconst 3, 1), (17, .if_icmp .ne 7, 3), (20, .iconst 1, 1), (21, .goto 4, 3), (24, .iconst 0, 1), (25, .ireturn, 1)]
def am_m6 : aM := (yX0_hasValue, cX0_hasValue, 2, some .boolean, 0, [], 1, am_i6)
theorem am_k6 : am_okM am_m6 := ⟨by decide +kernel, am_inP 923 (by decide +kernel) rfl, am_inP 7 (by decide +kernel) rfl, rfl, by decide, by decide +kernel, by decide +kernel⟩
set_option maxRecDepth 100000 in
theorem am_d6 : am_okI am_m6 := by unfold am_okI; decide +kernel
def am_i7 : List (Nat × Instr × Nat) := [(0, .aload_n 0, 1), (1, .invokespecial 3, 3), (4, .aload_n 0, 1), (5, .sipush 200, 3), (8, .newarray .int, 2), (10, .putfield 9, 3), (13, .aload_n 0, 1), (14, .sipush 200, 3), (17, .newarray .int, 2), (19, .putfield 15, 3), (22, .aload_n 0, 1), (23, .sipush 200, 3), (26, .newarray .int, 2), (28, .putfield 18, 3), (31, .aload_n 0, 1), (32, .sipush 200, 3), (35, .newarray .int, 2), (37, .putfield 21, 3), (40, .aload_n 0, 1), (41, .sipush 200, 3), (44, .newarray .int, 2), (46, .putfield 24, 3), (49, .aload_n 0, 1), (50, .sipush 2000, 3), (53, .newarray .int, 2), (55, .putfield 27, 3), (58, .return_, 1)]
def am_m7 : aM := (yX1_init, cX1_init, 1, none, 1, [], 0, am_i7)
theorem am_k7 : am_okM am_m7 := ⟨by decide +kernel, am_inP 268 (by decide +kernel) rfl, am_inP 9 (by decide +kernel) rfl, rfl, by decide, by decide +kernel, by decide +kernel⟩
set_option maxRecDepth 100000 in
theorem am_d7 : am_okI am_m7 := by unfold am_okI; decide +kernel
def am_i8 : List (Nat × Instr × Nat) := [(0, .aload_n 0, 1), (1, .iconst 0, 1), (2, .putfield 30, 3), (5, .aload_n 0, 1), (6, .iconst 0, 1), (7, .putfield 34, 3), (10, .return_, 1)]
def am_m8 : aM := (yX1_start, cX1_start, 1, none, 1, [], 0, am_i8)
theorem am_k8 : am_okM am_m8 := ⟨by decide +kernel, am_inP 879 (by decide +kernel) rfl, am_inP 9 (by decide +kernel) rfl, rfl, by decide, by decide +kernel, by decide +kernel⟩
set_option maxRecDepth 100000 in
theorem am_d8 : am_okI am_m8 := by unfold am_okI; decide +kernel
def am_i9 : List (Nat × Instr × Nat) := [(0, .aload_n 0, 1), (1, .getfield 30, 3), (4, .sipush 200, 3), (7, .if_icmp .lt 11, 3), (10, .new 37, 3), (13, .dup, 1), (14, .invokespecial 39, 3), (17, .athrow, 1), (18, .aload_n 0, 1), (19, .getfield 9, 3), (22, .aload_n 0, 1), (23, .getfield 30, 3), (26, .iload_n 1, 1), (27, .iastore, 1), (28, .aload_n 0, 1), (29, .getfield 15, 3), (32, .aload_n 0, 1), (33, .getfield 30, 3), (36, .iload_n 2, 1), (37, .iastore, 1), (38, .aload_n 0, 1), (39, .getfield 18, 3), (42, .aload_n 0, 1), (43, .getfield 30, 3), (46, .aload_n 0, 1), (47, .getfield 34, 3), (50, .iastore, 1), (51, .aload_n 0, 1), (52, .getfield 21, 3), (55, .aload_n 0, 1), (56, .getfield 30, 3), (59, .iconst 0, 1), (60, .iastore, 1), (61, .aload_n 0, 1), (62, .getfield 24, 3), (65, .aload_n 0, 1), (66, .getfield 30, 3), (69, .iconst (-1), 1), (70, .iastore, 1), (71, .aload_n 0, 1), (72, .dup, 1), (73, .getfield 30, 3), (76, .iconst 1, 1), (77, .iadd, 1), (78, .putfield 30, 3), (81, .return_, 1)]
def am_m9 : aM := (yX1_add, cX1_add, 3, none, 1, [], 2, am_i9)
theorem am_k9 : am_okM am_m9 := ⟨by decide +kernel, am_inP 893 (by decide +kernel) rfl, am_inP 9 (by decide +kernel) rfl, rfl, by decide, by decide +kernel, by decide +kernel⟩
set_option maxRecDepth 100000 in
theorem am_d9 : am_okI am_m9 := by unfold am_okI; decide +kernel
def am_i10 : List (Nat × Instr × Nat) := [(0, .aload_n 0, 1), (1, .iconst 2, 1), (2, .iload_n 1, 1), (3, .invokevirtual 40, 3), (6, .iload 5, 2), (8, .sipush 2000, 3), (11, .aload_n 0, 1), (12, .getfield 34, 3), (15, .isub, 1), (16, .if_icmp .le 11, 3), (19, .new 37, 3), (22, .dup, 1), (23, .invokespecial 39, 3), (26, .athrow, 1), (27, .aload_n 3, 1), (28, .iload 4, 2), (30, .aload_n 0, 1), (31, .getfield 27, 3), (34, .aload_n 0, 1), (35, .getfield 34, 3), (38, .iload 5, 2), (40, .invokestatic 44, 3), (43, .aload_n 0, 1), (44, .dup, 1), (45, .getfield 34, 3), (48, .iload 5, 2), (50, .iadd, 1), (51, .putfield 34, 3), (54, .aload_n 0, 1), (55, .getfield 21, 3), (58, .aload_n 0, 1), (59, .getfield 30, 3), (62, .iconst 1, 1), (63, .isub, 1), (64, .iload 5, 2), (66, .iastore, 1), (67, .aload_n 0, 1), (68, .getfield 24, 3), (71, .aload_n 0, 1), (72, .getfield 30, 3), (75, .iconst 1, 1), (76, .isub, 1), (77, .iload_n 2, 1), (78, .iastore, 1), (79, .return_, 1)]
def am_m10 : aM := (yX1_addAttribute, cX1_addAttribute, 6, none, 1, [], 5, am_i10)
theorem am_k10 : am_okM am_m10 := ⟨by decide +kernel, am_inP 911 (by decide +kernel) rfl, am_inP 9 (by decide +kernel) rfl, rfl, by decide, by decide +kernel, by decide +kernel⟩
set_option maxRecDepth 100000 in
theorem am_d10 : am_okI am_m10 := by unfold am_okI; decide +kernel
def am_i11 : List (Nat × Instr × Nat) := [(0, .aload_n 0, 1), (1, .getfield 30, 3), (4, .ifCond .eq 18, 3), (7, .aload_n 0, 1), (8, .getfield 9, 3), (11, .aload_n 0, 1), (12, .getfield 30, 3), (15, .iconst 1, 1), (16, .isub, 1), (17, .iaload, 1), (18, .iconst 3, 1), (19, .if_icmp .eq 9, 3), (22, .aload_n 0, 1), (23, .iconst 3, 1), (24, .iconst 0, 1), (25, .invokevirtual 40, 3), (28, .aload_n 0, 1), (29, .getfield 34, 3), (32, .sipush 2000, 3), (35, .if_icmp .lt 11, 3), (38, .new 37, 3), (41, .dup, 1), (42, .invokespecial 39, 3), (45, .athrow, 1), (46, .aload_n 0, 1), (47, .getfield 27, 3), (50, .aload_n 0, 1), (51, .getfield 34, 3), (54, .iload_n 1, 1), (55, .iastore, 1), (56, .aload_n 0, 1), (57, .dup, 1), (58, .getfield 34, 3), (61, .iconst 1, 1), (62, .iadd, 1), (63, .putfield 34, 3), (66, .aload_n 0, 1), (67, .getfield 21, 3), (70, .aload_n 0, 1), (71, .getfield 30, 3), (74, .iconst 1, 1), (75, .isub, 1), (76, .dup2, 1), (77, .iaload, 1), (78, .iconst 1, 1), (79, .iadd, 1), (80, .iastore, 1), (81, .return_, 1)]
def am_m11 : aM := (yX1_addText, cX1_addText, 2, none, 1, [], 1, am_i11)
theorem am_k11 : am_okM am_m11 := ⟨by decide +kernel, am_inP 942 (by decide +kernel) rfl, am_inP 9 (by decide +kernel) rfl, rfl, by decide, by decide +kernel, by decide +kernel⟩
set_option maxRecDepth 100000 in
theorem am_d11 : am_okI am_m11 := by unfold am_okI; decide +kernel
def am_i12 : List (Nat × Instr × Nat) := [(0, .aload_n 0, 1), (1, .getfield 21, 3), (4, .iload_n 1, 1), (5, .iaload, 1), (6, .iload 4, 2), (8, .if_icmp .eq 5, 3), (11, .iconst 0, 1), (12, .ireturn, 1), (13, .iconst 0, 1), (14, .istore 5, 2), (16, .iload 5, 2), (18, .iload 4, 2), (20, .if_icmp .ge 34, 3), (23, .aload_n 0, 1), (24, .getfield 27, 3), (27, .aload_n 0, 1), (28, .getfield 18, 3), (31, .iload_n 1, 1), (32, .iaload, 1), (33, .iload 5, 2), (35, .iadd, 1), (36, .iaload, 1), (37, .aload_n 2, 1), (38, .iload_n 3, 1), (39, .iload 5, 2), (41, .iadd, 1), (42, .iaload, 1), (43, .if_icmp .eq 5, 3), (46, .iconst 0, 1), (47, .ireturn, 1), (48, .iinc 5 1, 3), (51, .goto (-35), 3), (54, .iconst 1, 1), (55, .ireturn, 1)]
def am_m12 : aM := (yX1_holds, cX1_holds, 6, some .boolean, 1, [], 4, am_i12)
theorem am_k12 : am_okM am_m12 := ⟨by decide +kernel, am_inP 1006 (by decide +kernel) rfl, am_inP 9 (by decide +kernel) rfl, rfl, by decide, by decide +kernel, by decide +kernel⟩
set_option maxRecDepth 100000 in
theorem am_d12 : am_okI am_m12 := by unfold am_okI; decide +kernel
def am_i13 : List (Nat × Instr × Nat) := [(0, .iconst 0, 1), (1, .istore_n 2, 1), (2, .iload_n 2, 1), (3, .aload_n 0, 1), (4, .getfield 21, 3), (7, .iload_n 1, 1), (8, .iaload, 1), (9, .if_icmp .ge 30, 3), (12, .aload_n 0, 1), (13, .getfield 27, 3), (16, .aload_n 0, 1), (17, .getfield 18, 3), (20, .iload_n 1, 1), (21, .iaload, 1), (22, .iload_n 2, 1), (23, .iadd, 1), (24, .iaload, 1), (25, .invokestatic 50, 3), (28, .ifCond .ne 5, 3), (31, .iconst 0, 1), (32, .ireturn, 1), (33, .iinc 2 1, 3), (36, .goto (-34), 3), (39, .iconst 1, 1), (40, .ireturn, 1)]
def am_m13 : aM := (yX1_isOfBlanks, cX1_isOfBlanks, 3, some .boolean, 1, [], 1, am_i13)
theorem am_k13 : am_okM am_m13 := ⟨by decide +kernel, am_inP 1033 (by decide +kernel) rfl, am_inP 9 (by decide +kernel) rfl, rfl, by decide, by decide +kernel, by decide +kernel⟩
set_option maxRecDepth 100000 in
theorem am_d13 : am_okI am_m13 := by unfold am_okI; decide +kernel
def am_i14 : List (Nat × Instr × Nat) := [(0, .iconst 0, 1), (1, .istore_n 2, 1), (2, .iload_n 2, 1), (3, .aload_n 0, 1), (4, .getfield 21, 3), (7, .iload_n 1, 1), (8, .iaload, 1), (9, .if_icmp .ge 30, 3), (12, .aload_n 0, 1), (13, .getfield 27, 3), (16, .aload_n 0, 1), (17, .getfield 18, 3), (20, .iload_n 1, 1), (21, .iaload, 1), (22, .iload_n 2, 1), (23, .iadd, 1), (24, .iaload, 1), (25, .invokestatic 54, 3), (28, .ifCond .ne 5, 3), (31, .iconst 0, 1), (32, .ireturn, 1), (33, .iinc 2 1, 3), (36, .goto (-34), 3), (39, .aload_n 0, 1), (40, .getfield 21, 3), (43, .iload_n 1, 1), (44, .iaload, 1), (45, .ifCond .le 7, 3), (48, .iconst 1, 1), (49, .goto 4, 3), (52, .iconst 0, 1), (53, .ireturn, 1)]
def am_m14 : aM := (yX1_isToken, cX1_isToken, 3, some .boolean, 1, [], 1, am_i14)
theorem am_k14 : am_okM am_m14 := ⟨by decide +kernel, am_inP 1015 (by decide +kernel) rfl, am_inP 9 (by decide +kernel) rfl, rfl, by decide, by decide +kernel, by decide +kernel⟩
set_option maxRecDepth 100000 in
theorem am_d14 : am_okI am_m14 := by unfold am_okI; decide +kernel
def am_i15 : List (Nat × Instr × Nat) := [(0, .aload_n 0, 1), (1, .getfield 21, 3), (4, .iload_n 1, 1), (5, .iaload, 1), (6, .ifCond .le 24, 3), (9, .aload_n 0, 1), (10, .getfield 27, 3), (13, .aload_n 0, 1), (14, .getfield 18, 3), (17, .iload_n 1, 1), (18, .iaload, 1), (19, .iaload, 1), (20, .invokestatic 57, 3), (23, .ifCond .eq 7, 3), (26, .iconst 1, 1), (27, .goto 4, 3), (30, .iconst 0, 1), (31, .ireturn, 1)]
def am_m15 : aM := (yX1_beginsWithName, cX1_beginsWithName, 2, some .boolean, 1, [], 1, am_i15)
theorem am_k15 : am_okM am_m15 := ⟨by decide +kernel, am_inP 1020 (by decide +kernel) rfl, am_inP 9 (by decide +kernel) rfl, rfl, by decide, by decide +kernel, by decide +kernel⟩
set_option maxRecDepth 100000 in
theorem am_d15 : am_okI am_m15 := by unfold am_okI; decide +kernel
def am_i16 : List (Nat × Instr × Nat) := [(0, .aload_n 0, 1), (1, .invokespecial 3, 3), (4, .aload_n 0, 1), (5, .bipush 16, 2), (7, .newarray .int, 2), (9, .putfield 9, 3), (12, .aload_n 0, 1), (13, .bipush 16, 2), (15, .newarray .int, 2), (17, .putfield 15, 3), (20, .aload_n 0, 1), (21, .aload_n 1, 1), (22, .putfield 18, 3), (25, .aload_n 0, 1), (26, .aload_n 2, 1), (27, .putfield 22, 3), (30, .aload_n 0, 1), (31, .aload_n 2, 1), (32, .getfield 26, 3), (35, .putfield 32, 3), (38, .aload_n 0, 1), (39, .aload_n 3, 1), (40, .putfield 33, 3), (43, .return_, 1)]
def am_m16 : aM := (yX2_init, cX2_init, 4, none, 2, [], 3, am_i16)
theorem am_k16 : am_okM am_m16 := ⟨by decide +kernel, am_inP 334 (by decide +kernel) rfl, am_inP 11 (by decide +kernel) rfl, rfl, by decide, by decide +kernel, by decide +kernel⟩
set_option maxRecDepth 100000 in
theorem am_d16 : am_okI am_m16 := by unfold am_okI; decide +kernel
def am_i17 : List (Nat × Instr × Nat) := [(0, .aload_n 0, 1), (1, .getfield 22, 3), (4, .getfield 37, 3), (7, .iconst (-1), 1), (8, .if_icmp .ne 5, 3), (11, .iconst 1, 1), (12, .ireturn, 1), (13, .aload_n 0, 1), (14, .iconst 0, 1), (15, .putfield 41, 3), (18, .aload_n 0, 1), (19, .iconst 0, 1), (20, .putfield 44, 3), (23, .aload_n 0, 1), (24, .invokevirtual 47, 3), (27, .iconst 0, 1), (28, .istore_n 1, 1), (29, .iload_n 1, 1), (30, .aload_n 0, 1), (31, .getfield 33, 3), (34, .getfield 50, 3), (37, .if_icmp .ge 14, 3), (40, .aload_n 0, 1), (41, .iload_n 1, 1), (42, .invokevirtual 55, 3), (45, .iinc 1 1, 3), (48, .goto (-19), 3), (51, .aload_n 0, 1), (52, .getfield 41, 3), (55, .ireturn, 1)]
def am_m17 : aM := (yX2_find, cX2_find, 2, some .int, 2, [], 0, am_i17)
theorem am_k17 : am_okM am_m17 := ⟨by decide +kernel, am_inP 954 (by decide +kernel) rfl, am_inP 11 (by decide +kernel) rfl, rfl, by decide, by decide +kernel, by decide +kernel⟩
set_option maxRecDepth 100000 in
theorem am_d17 : am_okI am_m17 := by unfold am_okI; decide +kernel
def am_i18 : List (Nat × Instr × Nat) := [(0, .iload_n 2, 1), (1, .ifCond .eq 13, 3), (4, .aload_n 0, 1), (5, .dup, 1), (6, .getfield 41, 3), (9, .iload_n 1, 1), (10, .ior, 1), (11, .putfield 41, 3), (14, .return_, 1)]
def am_m18 : aM := (yX2_tell, cX2_tell, 3, none, 2, [], 2, am_i18)
theorem am_k18 : am_okM am_m18 := ⟨by decide +kernel, am_inP 962 (by decide +kernel) rfl, am_inP 11 (by decide +kernel) rfl, rfl, by decide, by decide +kernel, by decide +kernel⟩
set_option maxRecDepth 100000 in
theorem am_d18 : am_okI am_m18 := by unfold am_okI; decide +kernel
def am_i19 : List (Nat × Instr × Nat) := [(0, .aload_n 0, 1), (1, .sipush 1024, 3), (4, .aload_n 0, 1), (5, .getfield 22, 3), (8, .getfield 59, 3), (11, .invokevirtual 63, 3), (14, .iconst 0, 1), (15, .istore_n 1, 1), (16, .iload_n 1, 1), (17, .bipush 26, 2), (19, .if_icmp .ge 36, 3), (22, .aload_n 0, 1), (23, .sipush 512, 3), (26, .aload_n 0, 1), (27, .getfield 22, 3), (30, .getfield 67, 3), (33, .iload_n 1, 1), (34, .aaload, 1), (35, .invokevirtual 71, 3), (38, .ifCond .ne 7, 3), (41, .iconst 1, 1), (42, .goto 4, 3), (45, .iconst 0, 1), (46, .invokevirtual 63, 3), (49, .iinc 1 1, 3), (52, .goto (-36), 3), (55, .return_, 1)]
def am_m19 : aM := (yX2_lookAtModels, cX2_lookAtModels, 2, none, 2, [], 0, am_i19)
theorem am_k19 : am_okM am_m19 := ⟨by decide +kernel, am_inP 958 (by decide +kernel) rfl, am_inP 11 (by decide +kernel) rfl, rfl, by decide, by decide +kernel, by decide +kernel⟩
set_option maxRecDepth 100000 in
theorem am_d19 : am_okI am_m19 := by unfold am_okI; decide +kernel
def am_i20 : List (Nat × Instr × Nat) := [(0, .aload_n 0, 1), (1, .getfield 33, 3), (4, .getfield 77, 3), (7, .iload_n 1, 1), (8, .iaload, 1), (9, .tableswitch 60 1 3 #[27, 35, 52], 27), (36, .aload_n 0, 1), (37, .iload_n 1, 1), (38, .invokevirtual 80, 3), (41, .goto 32, 3), (44, .aload_n 0, 1), (45, .iload_n 1, 1), (46, .aload_n 0, 1), (47, .getfield 33, 3), (50, .getfield 83, 3), (53, .iload_n 1, 1), (54, .iaload, 1), (55, .invokevirtual 86, 3), (58, .goto 15, 3), (61, .aload_n 0, 1), (62, .iload_n 1, 1), (63, .invokevirtual 90, 3), (66, .goto 7, 3), (69, .aload_n 0, 1), (70, .invokevirtual 93, 3), (73, .return_, 1)]
def am_m20 : aM := (yX2_lookAtEvent, cX2_lookAtEvent, 2, none, 2, [], 1, am_i20)
theorem am_k20 : am_okM am_m20 := ⟨by decide +kernel, am_inP 974 (by decide +kernel) rfl, am_inP 11 (by decide +kernel) rfl, rfl, by decide, by decide +kernel, by decide +kernel⟩
set_option maxRecDepth 100000 in
theorem am_d20 : am_okI am_m20 := by unfold am_okI; decide +kernel
def am_i21 : List (Nat × Instr × Nat) := [(0, .aload_n 0, 1), (1, .getfield 22, 3), (4, .getfield 67, 3), (7, .iload_n 1, 1), (8, .bipush 97, 2), (10, .isub, 1), (11, .aaload, 1), (12, .areturn, 1)]
def am_m21 : aM := (yX2_modelOf, cX2_modelOf, 2, some (.object "MarkupJudge$Model"), 2, [], 1, am_i21)
theorem am_k21 : am_okM am_m21 := ⟨by decide +kernel, am_inP 982 (by decide +kernel) rfl, am_inP 11 (by decide +kernel) rfl, rfl, by decide, by decide +kernel, by decide +kernel⟩
set_option maxRecDepth 100000 in
theorem am_d21 : am_okI am_m21 := by unfold am_okI; decide +kernel
def am_i22 : List (Nat × Instr × Nat) := [(0, .aload_n 0, 1), (1, .getfield 33, 3), (4, .getfield 96, 3), (7, .iload_n 1, 1), (8, .iaload, 1), (9, .istore_n 2, 1), (10, .aload_n 0, 1), (11, .getfield 44, 3), (14, .ifCond .ne 27, 3), (17, .aload_n 0, 1), (18, .iconst 1, 1), (19, .iload_n 2, 1), (20, .aload_n 0, 1), (21, .getfield 22, 3), (24, .getfield 37, 3), (27, .if_icmp .eq 7, 3), (30, .iconst 1, 1), (31, .goto 4, 3), (34, .iconst 0, 1), (35, .invokevirtual 63, 3), (38, .goto 44, 3), (41, .aload_n 0, 1), (42, .getfield 15, 3), (45, .aload_n 0, 1), (46, .getfield 44, 3), (49, .iconst 1, 1), (50, .isub, 1), (51, .aload_n 0, 1), (52, .aload_n 0, 1), (53, .getfield 9, 3), (56, .aload_n 0, 1), (57, .getfield 44, 3), (60, .iconst 1, 1), (61, .isub, 1), (62, .iaload, 1), (63, .invokevirtual 99, 3), (66, .aload_n 0, 1), (67, .getfield 15, 3), (70, .aload_n 0, 1), (71, .getfield 44, 3), (74, .iconst 1, 1), (75, .isub, 1), (76, .iaload, 1), (77, .iload_n 2, 1), (78, .invokevirtual 103, 3), (81, .iastore, 1), (82, .aload_n 0, 1), (83, .iconst 2, 1), (84, .aload_n 0, 1), (85, .iload_n 2, 1), (86, .invokevirtual 99, 3), (89, .getfield 107, 3), (92, .ifCond .ne 7, 3), (95, .iconst 1, 1), (96, .goto 4, 3), (99, .iconst 0, 1), (100, .invokevirtual 63, 3), (103, .aload_n 0, 1), (104, .iload_n 1, 1), (105, .invokevirtual 110, 3), (108, .aload_n 0, 1), (109, .getfield 44, 3), (112, .bipush 16, 2), (114, .if_icmp .ge 33, 3), (117, .aload_n 0, 1), (118, .getfield 9, 3), (121, .aload_n 0, 1), (122, .getfield 44, 3), (125, .iload_n 2, 1), (126, .iastore, 1), (127, .aload_n 0, 1), (128, .getfield 15, 3), (131, .aload_n 0, 1), (132, .getfield 44, 3), (135, .iconst 1, 1), (136, .iastore, 1), (137, .aload_n 0, 1), (138, .dup, 1), (139, .getfield 44, 3), (142, .iconst 1, 1), (143, .iadd, 1), (144, .putfield 44, 3), (147, .return_, 1)]
def am_m22 : aM := (yX2_lookAtBegin, cX2_lookAtBegin, 3, none, 2, [], 1, am_i22)
theorem am_k22 : am_okM am_m22 := ⟨by decide +kernel, am_inP 978 (by decide +kernel) rfl, am_inP 11 (by decide +kernel) rfl, rfl, by decide, by decide +kernel, by decide +kernel⟩
set_option maxRecDepth 100000 in
theorem am_d22 : am_okI am_m22 := by unfold am_okI; decide +kernel
def am_i23 : List (Nat × Instr × Nat) := [(0, .aload_n 0, 1), (1, .getfield 44, 3), (4, .ifCond .le 51, 3), (7, .aload_n 0, 1), (8, .getfield 15, 3), (11, .aload_n 0, 1), (12, .getfield 44, 3), (15, .iconst 1, 1), (16, .isub, 1), (17, .aload_n 0, 1), (18, .aload_n 0, 1), (19, .getfield 9, 3), (22, .aload_n 0, 1), (23, .getfield 44, 3), (26, .iconst 1, 1), (27, .isub, 1), (28, .iaload, 1), (29, .invokevirtual 99, 3), (32, .aload_n 0, 1), (33, .getfield 15, 3), (36, .aload_n 0, 1), (37, .getfield 44, 3), (40, .iconst 1, 1), (41, .isub, 1), (42, .iaload, 1), (43, .aload_n 0, 1), (44, .getfield 33, 3), (47, .iload_n 1, 1), (48, .invokevirtual 113, 3), (51, .invokevirtual 117, 3), (54, .iastore, 1), (55, .return_, 1)]
def am_m23 : aM := (yX2_lookAtText, cX2_lookAtText, 2, none, 2, [], 1, am_i23)
theorem am_k23 : am_okM am_m23 := ⟨by decide +kernel, am_inP 1029 (by decide +kernel) rfl, am_inP 11 (by decide +kernel) rfl, rfl, by decide, by decide +kernel, by decide +kernel⟩
set_option maxRecDepth 100000 in
theorem am_d23 : am_okI am_m23 := by unfold am_okI; decide +kernel
def am_i24 : List (Nat × Instr × Nat) := [(0, .aload_n 0, 1), (1, .getfield 44, 3), (4, .ifCond .le 52, 3), (7, .aload_n 0, 1), (8, .dup, 1), (9, .getfield 44, 3), (12, .iconst 1, 1), (13, .isub, 1), (14, .putfield 44, 3), (17, .aload_n 0, 1), (18, .iconst 4, 1), (19, .aload_n 0, 1), (20, .getfield 15, 3), (23, .aload_n 0, 1), (24, .getfield 44, 3), (27, .iaload, 1), (28, .aload_n 0, 1), (29, .aload_n 0, 1), (30, .getfield 9, 3), (33, .aload_n 0, 1), (34, .getfield 44, 3), (37, .iaload, 1), (38, .invokevirtual 99, 3), (41, .getfield 121, 3), (44, .iand, 1), (45, .ifCond .ne 7, 3), (48, .iconst 1, 1), (49, .goto 4, 3), (52, .iconst 0, 1), (53, .invokevirtual 63, 3), (56, .return_, 1)]
def am_m24 : aM := (yX2_lookAtEnd, cX2_lookAtEnd, 1, none, 2, [], 0, am_i24)
theorem am_k24 : am_okM am_m24 := ⟨by decide +kernel, am_inP 1042 (by decide +kernel) rfl, am_inP 11 (by decide +kernel) rfl, rfl, by decide, by decide +kernel, by decide +kernel⟩
set_option maxRecDepth 100000 in
theorem am_d24 : am_okI am_m24 := by unfold am_okI; decide +kernel
def am_i25 : List (Nat × Instr × Nat) := [(0, .iconst 0, 1), (1, .istore_n 2, 1), (2, .iload_n 2, 1), (3, .aload_n 0, 1), (4, .getfield 32, 3), (7, .getfield 124, 3), (10, .if_icmp .ge 63, 3), (13, .aload_n 0, 1), (14, .getfield 32, 3), (17, .getfield 127, 3), (20, .iload_n 2, 1), (21, .iaload, 1), (22, .aload_n 0, 1), (23, .getfield 33, 3), (26, .getfield 96, 3), (29, .iload_n 1, 1), (30, .iaload, 1), (31, .if_icmp .ne 36, 3), (34, .aload_n 0, 1), (35, .getfield 32, 3), (38, .getfield 130, 3), (41, .iload_n 2, 1), (42, .iaload, 1), (43, .iconst 1, 1), (44, .if_icmp .ne 23, 3), (47, .aload_n 0, 1), (48, .bipush 16, 2), (50, .aload_n 0, 1), (51, .iload_n 1, 1), (52, .iload_n 2, 1), (53, .invokevirtual 133, 3), (56, .ifCond .ne 7, 3), (59, .iconst 1, 1), (60, .goto 4, 3), (63, .iconst 0, 1), (64, .invokevirtual 63, 3), (67, .iinc 2 1, 3), (70, .goto (-68), 3), (73, .return_, 1)]
def am_m25 : aM := (yX2_lookForRequired, cX2_lookForRequired, 3, none, 2, [], 1, am_i25)
theorem am_k25 : am_okM am_m25 := ⟨by decide +kernel, am_inP 994 (by decide +kernel) rfl, am_inP 11 (by decide +kernel) rfl, rfl, by decide, by decide +kernel, by decide +kernel⟩
set_option maxRecDepth 100000 in
theorem am_d25 : am_okI am_m25 := by unfold am_okI; decide +kernel
def am_i26 : List (Nat × Instr × Nat) := [(0, .iload_n 1, 1), (1, .iconst 1, 1), (2, .iadd, 1), (3, .istore_n 3, 1), (4, .iload_n 3, 1), (5, .aload_n 0, 1), (6, .getfield 33, 3), (9, .getfield 50, 3), (12, .if_icmp .ge 37, 3), (15, .aload_n 0, 1), (16, .getfield 33, 3), (19, .getfield 77, 3), (22, .iload_n 3, 1), (23, .iaload, 1), (24, .iconst 2, 1), (25, .if_icmp .ne 24, 3), (28, .aload_n 0, 1), (29, .getfield 33, 3), (32, .getfield 83, 3), (35, .iload_n 3, 1), (36, .iaload, 1), (37, .iload_n 2, 1), (38, .if_icmp .ne 5, 3), (41, .iconst 1, 1), (42, .ireturn, 1), (43, .iinc 3 1, 3), (46, .goto (-42), 3), (49, .iconst 0, 1), (50, .ireturn, 1)]
def am_m26 : aM := (yX2_hasAttribute, cX2_hasAttribute, 4, some .boolean, 2, [], 2, am_i26)
theorem am_k26 : am_okM am_m26 := ⟨by decide +kernel, am_inP 998 (by decide +kernel) rfl, am_inP 11 (by decide +kernel) rfl, rfl, by decide, by decide +kernel, by decide +kernel⟩
set_option maxRecDepth 100000 in
theorem am_d26 : am_okI am_m26 := by unfold am_okI; decide +kernel
def am_i27 : List (Nat × Instr × Nat) := [(0, .iload_n 2, 1), (1, .iconst (-1), 1), (2, .if_icmp .ne 15, 3), (5, .aload_n 0, 1), (6, .dup, 1), (7, .getfield 41, 3), (10, .bipush 8, 2), (12, .ior, 1), (13, .putfield 41, 3), (16, .return_, 1), (17, .aload_n 0, 1), (18, .getfield 32, 3), (21, .getfield 130, 3), (24, .iload_n 2, 1), (25, .iaload, 1), (26, .iconst 3, 1), (27, .if_icmp .ne 52, 3), (30, .aload_n 0, 1), (31, .getfield 33, 3), (34, .iload_n 1, 1), (35, .aload_n 0, 1), (36, .getfield 32, 3), (39, .getfield 137, 3), (42, .aload_n 0, 1), (43, .getfield 32, 3), (46, .getfield 140, 3), (49, .iload_n 2, 1), (50, .iaload, 1), (51, .aload_n 0, 1), (52, .getfield 32, 3), (55, .getfield 143, 3), (58, .iload_n 2, 1), (59, .iaload, 1), (60, .invokevirtual 146, 3), (63, .istore_n 3, 1), (64, .aload_n 0, 1), (65, .bipush 32, 2), (67, .iload_n 3, 1), (68, .ifCond .ne 7, 3), (71, .iconst 1, 1), (72, .goto 4, 3), (75, .iconst 0, 1), (76, .invokevirtual 63, 3), (79, .aload_n 0, 1), (80, .getfield 32, 3), (83, .getfield 150, 3), (86, .iload_n 2, 1), (87, .iaload, 1), (88, .tableswitch 173 1 4 #[97, 143, 72, 32], 32), (120, .aload_n 0, 1), (121, .bipush 64, 2), (123, .aload_n 0, 1), (124, .iload_n 1, 1), (125, .aload_n 0, 1), (126, .getfield 32, 3), (129, .getfield 153, 3), (132, .iload_n 2, 1), (133, .iaload, 1), (134, .aload_n 0, 1), (135, .getfield 32, 3), (138, .getfield 156, 3), (141, .iload_n 2, 1), (142, .iaload, 1), (143, .invokevirtual 159, 3), (146, .ifCond .ne 7, 3), (149, .iconst 1, 1), (150, .goto 4, 3), (153, .iconst 0, 1), (154, .invokevirtual 63, 3), (157, .goto 104, 3), (160, .aload_n 0, 1), (161, .bipush 64, 2), (163, .aload_n 0, 1), (164, .getfield 33, 3), (167, .iload_n 1, 1), (168, .invokevirtual 163, 3), (171, .ifCond .ne 7, 3), (174, .iconst 1, 1), (175, .goto 4, 3), (178, .iconst 0, 1), (179, .invokevirtual 63, 3), (182, .goto 79, 3), (185, .aload_n 0, 1), (186, .sipush 128, 3), (189, .aload_n 0, 1), (190, .getfield 33, 3), (193, .iload_n 1, 1), (194, .invokevirtual 163, 3), (197, .ifCond .eq 23, 3), (200, .aload_n 0, 1), (201, .getfield 33, 3), (204, .iload_n 1, 1), (205, .invokevirtual 166, 3), (208, .ifCond .eq 12, 3), (211, .aload_n 0, 1), (212, .iload_n 1, 1), (213, .iload_n 1, 1), (214, .invokevirtual 169, 3), (217, .ifCond .eq 7, 3), (220, .iconst 1, 1), (221, .goto 4, 3), (224, .iconst 0, 1), (225, .invokevirtual 63, 3), (228, .goto 33, 3), (231, .aload_n 0, 1), (232, .sipush 256, 3), (235, .aload_n 0, 1), (236, .aload_n 0, 1), (237, .getfield 33, 3), (240, .getfield 50, 3), (243, .iload_n 1, 1), (244, .invokevirtual 169, 3), (247, .ifCond .ne 7, 3), (250, .iconst 1, 1), (251, .goto 4, 3), (254, .iconst 0, 1), (255, .invokevirtual 63, 3), (258, .goto 3, 3), (261, .return_, 1)]
def am_m27 : aM := (yX2_lookAtAttribute, cX2_lookAtAttribute, 4, none, 2, [], 2, am_i27)
theorem am_k27 : am_okM am_m27 := ⟨by decide +kernel, am_inP 1002 (by decide +kernel) rfl, am_inP 11 (by decide +kernel) rfl, rfl, by decide, by decide +kernel, by decide +kernel⟩
set_option maxRecDepth 100000 in
theorem am_d27 : am_okI am_m27 := by unfold am_okI; decide +kernel
def am_i28 : List (Nat × Instr × Nat) := [(0, .iload_n 2, 1), (1, .istore 4, 2), (3, .iload_n 2, 1), (4, .istore 5, 2), (6, .iload 5, 2), (8, .iload_n 3, 1), (9, .if_icmp .ge 65, 3), (12, .aload_n 0, 1), (13, .getfield 18, 3), (16, .getfield 172, 3), (19, .iload 5, 2), (21, .iaload, 1), (22, .invokestatic 177, 3), (25, .ifCond .ne 43, 3), (28, .iload 5, 2), (30, .iload 4, 2), (32, .if_icmp .le 30, 3), (35, .aload_n 0, 1), (36, .getfield 33, 3), (39, .iload_n 1, 1), (40, .aload_n 0, 1), (41, .getfield 18, 3), (44, .getfield 172, 3), (47, .iload 4, 2), (49, .iload 5, 2), (51, .iload 4, 2), (53, .isub, 1), (54, .invokevirtual 146, 3), (57, .ifCond .eq 5, 3), (60, .iconst 1, 1), (61, .ireturn, 1), (62, .iload 5, 2), (64, .iconst 1, 1), (65, .iadd, 1), (66, .istore 4, 2), (68, .iinc 5 1, 3), (71, .goto (-65), 3), (74, .iconst 0, 1), (75, .ireturn, 1)]
def am_m28 : aM := (yX2_isListed, cX2_isListed, 6, some .boolean, 2, [], 3, am_i28)
theorem am_k28 : am_okM am_m28 := ⟨by decide +kernel, am_inP 1010 (by decide +kernel) rfl, am_inP 11 (by decide +kernel) rfl, rfl, by decide, by decide +kernel, by decide +kernel⟩
set_option maxRecDepth 100000 in
theorem am_d28 : am_okI am_m28 := by unfold am_okI; decide +kernel
def am_i29 : List (Nat × Instr × Nat) := [(0, .iconst 0, 1), (1, .istore_n 3, 1), (2, .iload_n 3, 1), (3, .iload_n 1, 1), (4, .if_icmp .ge 78, 3), (7, .aload_n 0, 1), (8, .getfield 33, 3), (11, .getfield 83, 3), (14, .iload_n 3, 1), (15, .iaload, 1), (16, .istore 4, 2), (18, .iload 4, 2), (20, .iconst (-1), 1), (21, .if_icmp .eq 55, 3), (24, .aload_n 0, 1), (25, .getfield 32, 3), (28, .getfield 150, 3), (31, .iload 4, 2), (33, .iaload, 1), (34, .iconst 1, 1), (35, .if_icmp .ne 41, 3), (38, .aload_n 0, 1), (39, .getfield 33, 3), (42, .iload_n 3, 1), (43, .aload_n 0, 1), (44, .getfield 33, 3), (47, .getfield 180, 3), (50, .aload_n 0, 1), (51, .getfield 33, 3), (54, .getfield 181, 3), (57, .iload_n 2, 1), (58, .iaload, 1), (59, .aload_n 0, 1), (60, .getfield 33, 3), (63, .getfield 182, 3), (66, .iload_n 2, 1), (67, .iaload, 1), (68, .invokevirtual 146, 3), (71, .ifCond .eq 5, 3), (74, .iconst 1, 1), (75, .ireturn, 1), (76, .iinc 3 1, 3), (79, .goto (-77), 3), (82, .iconst 0, 1), (83, .ireturn, 1)]
def am_m29 : aM := (yX2_isIdBefore, cX2_isIdBefore, 5, some .boolean, 2, [], 2, am_i29)
theorem am_k29 : am_okM am_m29 := ⟨by decide +kernel, am_inP 1025 (by decide +kernel) rfl, am_inP 11 (by decide +kernel) rfl, rfl, by decide, by decide +kernel, by decide +kernel⟩
set_option maxRecDepth 100000 in
theorem am_d29 : am_okI am_m29 := by unfold am_okI; decide +kernel
def am_i30 : List (Nat × Instr × Nat) := [(0, .aload_n 0, 1), (1, .invokespecial 3, 3), (4, .aload_n 0, 1), (5, .bipush 26, 2), (7, .anewarray 9, 3), (10, .putfield 11, 3), (13, .aload_n 0, 1), (14, .new 9, 3), (17, .dup, 1), (18, .invokespecial 17, 3), (21, .putfield 18, 3), (24, .aload_n 0, 1), (25, .new 22, 3), (28, .dup, 1), (29, .invokespecial 24, 3), (32, .putfield 25, 3), (35, .aload_n 0, 1), (36, .aload_n 1, 1), (37, .putfield 29, 3), (40, .aload_n 0, 1), (41, .aload_n 2, 1), (42, .putfield 33, 3), (45, .aload_n 0, 1), (46, .aload_n 3, 1), (47, .putfield 37, 3), (50, .aload_n 0, 1), (51, .new 41, 3), (54, .dup, 1), (55, .aload_n 1, 1), (56, .invokespecial 43, 3), (59, .putfield 46, 3), (62, .iconst 0, 1), (63, .istore 4, 2), (65, .iload 4, 2), (67, .bipush 26, 2), (69, .if_icmp .ge 23, 3), (72, .aload_n 0, 1), (73, .getfield 11, 3), (76, .iload 4, 2), (78, .new 9, 3), (81, .dup, 1), (82, .invokespecial 17, 3), (85, .aastore, 1), (86, .iinc 4 1, 3), (89, .goto (-24), 3), (92, .return_, 1)]
def am_m30 : aM := (yX3_init, cX3_init, 5, none, 3, [], 3, am_i30)
theorem am_k30 : am_okM am_m30 := ⟨by decide +kernel, am_inP 123 (by decide +kernel) rfl, am_inP 5 (by decide +kernel) rfl, rfl, by decide, by decide +kernel, by decide +kernel⟩
set_option maxRecDepth 100000 in
theorem am_d30 : am_okI am_m30 := by unfold am_okI; decide +kernel
end
section
def am_i31 : List (Nat × Instr × Nat) := [(0, .aload_n 0, 1), (1, .invokevirtual 50, 3), (4, .aload_n 0, 1), (5, .getfield 29, 3), (8, .invokevirtual 53, 3), (11, .aload_n 0, 1), (12, .getfield 29, 3), (15, .ldc 58, 2), (17, .invokevirtual 60, 3), (20, .ifCond .ne 4, 3), (23, .return_, 1), (24, .aload_n 0, 1), (25, .invokevirtual 64, 3), (28, .ifCond .eq 111, 3), (31, .iconst 0, 1), (32, .istore_n 1, 1), (33, .iload_n 1, 1), (34, .ldc 68, 2), (36, .if_icmp .ge 95, 3), (39, .aload_n 0, 1), (40, .getfield 29, 3), (43, .ldc 69, 2), (45, .invokevirtual 60, 3), (48, .ifCond .ne 83, 3), (51, .aload_n 0, 1), (52, .getfield 29, 3), (55, .ldc 71, 2), (57, .invokevirtual 60, 3), (60, .ifCond .eq 10, 3), (63, .aload_n 0, 1), (64, .invokevirtual 73, 3), (67, .goto 58, 3), (70, .aload_n 0, 1), (71, .getfield 29, 3), (74, .ldc 76, 2), (76, .invokevirtual 60, 3), (79, .ifCond .eq 10, 3), (82, .aload_n 0, 1), (83, .invokevirtual 78, 3), (86, .goto 39, 3), (89, .aload_n 0, 1), (90, .getfield 29, 3), (93, .ldc 81, 2), (95, .invokevirtual 60, 3), (98, .ifCond .eq 10, 3), (101, .aload_n 0, 1), (102, .invokevirtual 83, 3), (105, .goto 20, 3), (108, .aload_n 0, 1), (109, .getfield 29, 3), (112, .invokevirtual 86, 3), (115, .ifCond .ne 10, 3), (118, .aload_n 0, 1), (119, .getfield 29, 3), (122, .invokevirtual 89, 3), (125, .iinc 1 1, 3), (128, .goto (-95), 3), (131, .aload_n 0, 1), (132, .getfield 29, 3), (135, .invokevirtual 92, 3), (138, .pop, 1), (139, .aload_n 0, 1), (140, .getfield 29, 3), (143, .bipush 62, 2), (145, .invokevirtual 95, 3), (148, .aload_n 0, 1), (149, .getfield 29, 3), (152, .invokevirtual 53, 3), (155, .return_, 1)]
def am_m31 : aM := (yX3_read, cX3_read, 2, none, 3, [], 0, am_i31)
theorem am_k31 : am_okM am_m31 := ⟨by decide +kernel, am_inP 541 (by decide +kernel) rfl, am_inP 5 (by decide +kernel) rfl, rfl, by decide, by decide +kernel, by decide +kernel⟩
set_option maxRecDepth 100000 in
theorem am_d31 : am_okI am_m31 := by unfold am_okI; decide +kernel
def am_i32 : List (Nat × Instr × Nat) := [(0, .aload_n 0, 1), (1, .iconst (-1), 1), (2, .putfield 99, 3), (5, .aload_n 0, 1), (6, .iconst 0, 1), (7, .putfield 103, 3), (10, .aload_n 0, 1), (11, .getfield 25, 3), (14, .invokevirtual 107, 3), (17, .iconst 0, 1), (18, .istore_n 1, 1), (19, .iload_n 1, 1), (20, .bipush 26, 2), (22, .if_icmp .ge 19, 3), (25, .aload_n 0, 1), (26, .getfield 11, 3), (29, .iload_n 1, 1), (30, .aaload, 1), (31, .iconst 0, 1), (32, .invokevirtual 110, 3), (35, .iinc 1 1, 3), (38, .goto (-19), 3), (41, .return_, 1)]
def am_m32 : aM := (yX3_forget, cX3_forget, 2, none, 3, [], 0, am_i32)
theorem am_k32 : am_okM am_m32 := ⟨by decide +kernel, am_inP 545 (by decide +kernel) rfl, am_inP 5 (by decide +kernel) rfl, rfl, by decide, by decide +kernel, by decide +kernel⟩
set_option maxRecDepth 100000 in
theorem am_d32 : am_okI am_m32 := by unfold am_okI; decide +kernel
def am_i33 : List (Nat × Instr × Nat) := [(0, .aload_n 0, 1), (1, .getfield 29, 3), (4, .invokevirtual 89, 3), (7, .aload_n 0, 1), (8, .aload_n 0, 1), (9, .getfield 29, 3), (12, .invokevirtual 112, 3), (15, .putfield 99, 3), (18, .aload_n 0, 1), (19, .getfield 29, 3), (22, .invokevirtual 92, 3), (25, .pop, 1), (26, .aload_n 0, 1), (27, .invokevirtual 116, 3), (30, .aload_n 0, 1), (31, .getfield 29, 3), (34, .ldc 119, 2), (36, .invokevirtual 60, 3), (39, .ireturn, 1)]
def am_m33 : aM := (yX3_readHead, cX3_readHead, 1, some .boolean, 3, [], 0, am_i33)
theorem am_k33 : am_okM am_m33 := ⟨by decide +kernel, am_inP 639 (by decide +kernel) rfl, am_inP 5 (by decide +kernel) rfl, rfl, by decide, by decide +kernel, by decide +kernel⟩
set_option maxRecDepth 100000 in
theorem am_d33 : am_okI am_m33 := by unfold am_okI; decide +kernel
def am_i34 : List (Nat × Instr × Nat) := [(0, .aload_n 0, 1), (1, .getfield 29, 3), (4, .ldc 121, 2), (6, .invokevirtual 123, 3), (9, .ifCond .ne 15, 3), (12, .aload_n 0, 1), (13, .getfield 29, 3), (16, .ldc 126, 2), (18, .invokevirtual 123, 3), (21, .ifCond .eq 11, 3), (24, .new 128, 3), (27, .dup, 1), (28, .invokespecial 130, 3), (31, .athrow, 1), (32, .return_, 1)]
def am_m34 : aM := (yX3_refuseElsewhere, cX3_refuseElsewhere, 1, none, 3, [], 0, am_i34)
theorem am_k34 : am_okM am_m34 := ⟨by decide +kernel, am_inP 655 (by decide +kernel) rfl, am_inP 5 (by decide +kernel) rfl, rfl, by decide, by decide +kernel, by decide +kernel⟩
set_option maxRecDepth 100000 in
theorem am_d34 : am_okI am_m34 := by unfold am_okI; decide +kernel
def am_i35 : List (Nat × Instr × Nat) := [(0, .aload_n 0, 1), (1, .getfield 29, 3), (4, .invokevirtual 89, 3), (7, .aload_n 0, 1), (8, .getfield 11, 3), (11, .aload_n 0, 1), (12, .getfield 29, 3), (15, .invokevirtual 112, 3), (18, .bipush 97, 2), (20, .isub, 1), (21, .aaload, 1), (22, .astore_n 1, 1), (23, .aload_n 0, 1), (24, .getfield 29, 3), (27, .invokevirtual 89, 3), (30, .aload_n 1, 1), (31, .getfield 131, 3), (34, .ifCond .ne 14, 3), (37, .aload_n 0, 1), (38, .getfield 46, 3), (41, .aload_n 1, 1), (42, .invokevirtual 134, 3), (45, .goto 19, 3), (48, .aload_n 0, 1), (49, .getfield 46, 3), (52, .aload_n 0, 1), (53, .getfield 18, 3), (56, .invokevirtual 134, 3), (59, .aload_n 0, 1), (60, .iconst 1, 1), (61, .putfield 103, 3), (64, .aload_n 0, 1), (65, .invokevirtual 138, 3), (68, .return_, 1)]
def am_m35 : aM := (yX3_readElement, cX3_readElement, 2, none, 3, [], 0, am_i35)
theorem am_k35 : am_okM am_m35 := ⟨by decide +kernel, am_inP 682 (by decide +kernel) rfl, am_inP 5 (by decide +kernel) rfl, rfl, by decide, by decide +kernel, by decide +kernel⟩
set_option maxRecDepth 100000 in
theorem am_d35 : am_okI am_m35 := by unfold am_okI; decide +kernel
def am_i36 : List (Nat × Instr × Nat) := [(0, .aload_n 0, 1), (1, .getfield 29, 3), (4, .invokevirtual 89, 3), (7, .aload_n 0, 1), (8, .getfield 29, 3), (11, .invokevirtual 141, 3), (14, .bipush 37, 2), (16, .if_icmp .ne 11, 3), (19, .new 128, 3), (22, .dup, 1), (23, .invokespecial 130, 3), (26, .athrow, 1), (27, .aload_n 0, 1), (28, .getfield 29, 3), (31, .invokevirtual 112, 3), (34, .istore_n 1, 1), (35, .aload_n 0, 1), (36, .getfield 29, 3), (39, .invokevirtual 89, 3), (42, .aload_n 0, 1), (43, .invokevirtual 116, 3), (46, .aload_n 0, 1), (47, .getfield 29, 3), (50, .getfield 144, 3), (53, .istore_n 2, 1), (54, .aload_n 0, 1), (55, .getfield 29, 3), (58, .bipush 34, 2), (60, .invokevirtual 95, 3), (63, .iconst 0, 1), (64, .istore_n 3, 1), (65, .iload_n 3, 1), (66, .ldc 68, 2), (68, .if_icmp .ge 57, 3), (71, .aload_n 0, 1), (72, .getfield 29, 3), (75, .ldc 147, 2), (77, .invokevirtual 60, 3), (80, .ifCond .ne 45, 3), (83, .aload_n 0, 1), (84, .getfield 29, 3), (87, .aload_n 0, 1), (88, .getfield 29, 3), (91, .ldc 149, 2), (93, .invokevirtual 60, 3), (96, .ifCond .eq 13, 3), (99, .aload_n 0, 1), (100, .getfield 29, 3), (103, .invokevirtual 151, 3), (106, .goto 10, 3), (109, .aload_n 0, 1), (110, .getfield 29, 3), (113, .invokevirtual 154, 3), (116, .invokevirtual 157, 3), (119, .iinc 3 1, 3), (122, .goto (-57), 3), (125, .aload_n 0, 1), (126, .getfield 33, 3), (129, .iload_n 1, 1), (130, .iload_n 2, 1), (131, .invokevirtual 160, 3), (134, .aload_n 0, 1), (135, .invokevirtual 138, 3), (138, .return_, 1)]
def am_m36 : aM := (yX3_readEntity, cX3_readEntity, 4, none, 3, [], 0, am_i36)
theorem am_k36 : am_okM am_m36 := ⟨by decide +kernel, am_inP 861 (by decide +kernel) rfl, am_inP 5 (by decide +kernel) rfl, rfl, by decide, by decide +kernel, by decide +kernel⟩
set_option maxRecDepth 100000 in
theorem am_d36 : am_okI am_m36 := by unfold am_okI; decide +kernel
def am_i37 : List (Nat × Instr × Nat) := [(0, .aload_n 0, 1), (1, .getfield 29, 3), (4, .invokevirtual 89, 3), (7, .aload_n 0, 1), (8, .getfield 29, 3), (11, .invokevirtual 112, 3), (14, .istore_n 1, 1), (15, .aload_n 0, 1), (16, .getfield 29, 3), (19, .invokevirtual 92, 3), (22, .istore_n 2, 1), (23, .iconst 0, 1), (24, .istore_n 3, 1), (25, .iload_n 3, 1), (26, .ldc 68, 2), (28, .if_icmp .ge 38, 3), (31, .iload_n 2, 1), (32, .ifCond .eq 34, 3), (35, .aload_n 0, 1), (36, .getfield 29, 3), (39, .invokevirtual 141, 3), (42, .bipush 62, 2), (44, .if_icmp .eq 22, 3), (47, .aload_n 0, 1), (48, .iload_n 1, 1), (49, .invokevirtual 166, 3), (52, .aload_n 0, 1), (53, .getfield 29, 3), (56, .invokevirtual 92, 3), (59, .istore_n 2, 1), (60, .iinc 3 1, 3), (63, .goto (-38), 3), (66, .aload_n 0, 1), (67, .invokevirtual 138, 3), (70, .return_, 1)]
def am_m37 : aM := (yX3_readAttributes, cX3_readAttributes, 4, none, 3, [], 0, am_i37)
theorem am_k37 : am_okM am_m37 := ⟨by decide +kernel, am_inP 745 (by decide +kernel) rfl, am_inP 5 (by decide +kernel) rfl, rfl, by decide, by decide +kernel, by decide +kernel⟩
set_option maxRecDepth 100000 in
theorem am_d37 : am_okI am_m37 := by unfold am_okI; decide +kernel
def am_i38 : List (Nat × Instr × Nat) := [(0, .aload_n 0, 1), (1, .getfield 29, 3), (4, .invokevirtual 112, 3), (7, .istore_n 2, 1), (8, .aload_n 0, 1), (9, .getfield 29, 3), (12, .invokevirtual 89, 3), (15, .aload_n 0, 1), (16, .getfield 29, 3), (19, .getfield 169, 3), (22, .istore_n 3, 1), (23, .aload_n 0, 1), (24, .invokevirtual 172, 3), (27, .istore 4, 2), (29, .aload_n 0, 1), (30, .getfield 29, 3), (33, .getfield 169, 3), (36, .istore 5, 2), (38, .aload_n 0, 1), (39, .getfield 29, 3), (42, .invokevirtual 89, 3), (45, .aload_n 0, 1), (46, .invokevirtual 175, 3), (49, .istore 6, 2), (51, .iload 6, 2), (53, .iconst 3, 1), (54, .if_icmp .ne 10, 3), (57, .aload_n 0, 1), (58, .getfield 29, 3), (61, .invokevirtual 89, 3), (64, .aload_n 0, 1), (65, .getfield 25, 3), (68, .iload_n 1, 1), (69, .iload_n 2, 1), (70, .invokevirtual 178, 3), (73, .iconst (-1), 1), (74, .if_icmp .ne 7, 3), (77, .iconst 1, 1), (78, .goto 4, 3), (81, .iconst 0, 1), (82, .istore 7, 2), (84, .iload 7, 2), (86, .ifCond .eq 26, 3), (89, .aload_n 0, 1), (90, .getfield 25, 3), (93, .iload_n 1, 1), (94, .iload_n 2, 1), (95, .iload 4, 2), (97, .iload 6, 2), (99, .invokevirtual 182, 3), (102, .aload_n 0, 1), (103, .getfield 25, 3), (106, .iload_n 3, 1), (107, .iload 5, 2), (109, .invokevirtual 186, 3), (112, .iload 6, 2), (114, .iconst 3, 1), (115, .if_icmp .eq 9, 3), (118, .iload 6, 2), (120, .iconst 2, 1), (121, .if_icmp .ne 46, 3), (124, .aload_n 0, 1), (125, .getfield 37, 3), (128, .iload 4, 2), (130, .ifCond .eq 7, 3), (133, .iconst 1, 1), (134, .goto 4, 3), (137, .iconst 0, 1), (138, .invokevirtual 189, 3), (141, .iload 7, 2), (143, .ifCond .eq 24, 3), (146, .aload_n 0, 1), (147, .getfield 25, 3), (150, .aload_n 0, 1), (151, .getfield 37, 3), (154, .getfield 194, 3), (157, .aload_n 0, 1), (158, .getfield 37, 3), (161, .getfield 198, 3), (164, .invokevirtual 201, 3), (167, .return_, 1)]
def am_m38 : aM := (yX3_readAttribute, cX3_readAttribute, 8, none, 3, [], 1, am_i38)
theorem am_k38 : am_okM am_m38 := ⟨by decide +kernel, am_inP 750 (by decide +kernel) rfl, am_inP 5 (by decide +kernel) rfl, rfl, by decide, by decide +kernel, by decide +kernel⟩
set_option maxRecDepth 100000 in
theorem am_d38 : am_okI am_m38 := by unfold am_okI; decide +kernel
def am_i39 : List (Nat × Instr × Nat) := [(0, .aload_n 0, 1), (1, .getfield 29, 3), (4, .ldc 205, 2), (6, .invokevirtual 60, 3), (9, .ifCond .eq 5, 3), (12, .iconst 0, 1), (13, .ireturn, 1), (14, .aload_n 0, 1), (15, .getfield 29, 3), (18, .ldc 207, 2), (20, .invokevirtual 60, 3), (23, .ifCond .eq 5, 3), (26, .iconst 2, 1), (27, .ireturn, 1), (28, .aload_n 0, 1), (29, .getfield 29, 3), (32, .ldc 209, 2), (34, .invokevirtual 60, 3), (37, .ifCond .eq 5, 3), (40, .iconst 1, 1), (41, .ireturn, 1), (42, .aload_n 0, 1), (43, .getfield 29, 3), (46, .ldc 211, 2), (48, .invokevirtual 60, 3), (51, .ifCond .eq 5, 3), (54, .iconst 3, 1), (55, .ireturn, 1), (56, .aload_n 0, 1), (57, .invokevirtual 213, 3), (60, .iconst 4, 1), (61, .ireturn, 1)]
def am_m39 : aM := (yX3_readType, cX3_readType, 1, some .int, 3, [], 0, am_i39)
theorem am_k39 : am_okM am_m39 := ⟨by decide +kernel, am_inP 754 (by decide +kernel) rfl, am_inP 5 (by decide +kernel) rfl, rfl, by decide, by decide +kernel, by decide +kernel⟩
set_option maxRecDepth 100000 in
theorem am_d39 : am_okI am_m39 := by unfold am_okI; decide +kernel
def am_i40 : List (Nat × Instr × Nat) := [(0, .aload_n 0, 1), (1, .getfield 29, 3), (4, .bipush 40, 2), (6, .invokevirtual 95, 3), (9, .iconst 1, 1), (10, .istore_n 1, 1), (11, .iconst 0, 1), (12, .istore_n 2, 1), (13, .iload_n 2, 1), (14, .ldc 68, 2), (16, .if_icmp .ge 46, 3), (19, .iload_n 1, 1), (20, .ifCond .eq 42, 3), (23, .aload_n 0, 1), (24, .getfield 29, 3), (27, .invokevirtual 92, 3), (30, .pop, 1), (31, .aload_n 0, 1), (32, .getfield 29, 3), (35, .invokevirtual 216, 3), (38, .aload_n 0, 1), (39, .getfield 29, 3), (42, .invokevirtual 92, 3), (45, .pop, 1), (46, .aload_n 0, 1), (47, .getfield 29, 3), (50, .ldc 219, 2), (52, .invokevirtual 60, 3), (55, .istore_n 1, 1), (56, .iinc 2 1, 3), (59, .goto (-46), 3), (62, .aload_n 0, 1), (63, .getfield 29, 3), (66, .bipush 41, 2), (68, .invokevirtual 95, 3), (71, .return_, 1)]
def am_m40 : aM := (yX3_readTokens, cX3_readTokens, 3, none, 3, [], 0, am_i40)
theorem am_k40 : am_okM am_m40 := ⟨by decide +kernel, am_inP 762 (by decide +kernel) rfl, am_inP 5 (by decide +kernel) rfl, rfl, by decide, by decide +kernel, by decide +kernel⟩
set_option maxRecDepth 100000 in
theorem am_d40 : am_okI am_m40 := by unfold am_okI; decide +kernel
def am_i41 : List (Nat × Instr × Nat) := [(0, .aload_n 0, 1), (1, .getfield 29, 3), (4, .ldc 221, 2), (6, .invokevirtual 60, 3), (9, .ifCond .eq 5, 3), (12, .iconst 1, 1), (13, .ireturn, 1), (14, .aload_n 0, 1), (15, .getfield 29, 3), (18, .ldc 223, 2), (20, .invokevirtual 60, 3), (23, .ifCond .eq 5, 3), (26, .iconst 0, 1), (27, .ireturn, 1), (28, .aload_n 0, 1), (29, .getfield 29, 3), (32, .ldc 225, 2), (34, .invokevirtual 60, 3), (37, .ifCond .eq 7, 3), (40, .iconst 3, 1), (41, .goto 4, 3), (44, .iconst 2, 1), (45, .ireturn, 1)]
def am_m41 : aM := (yX3_readRule, cX3_readRule, 1, some .int, 3, [], 0, am_i41)
theorem am_k41 : am_okM am_m41 := ⟨by decide +kernel, am_inP 774 (by decide +kernel) rfl, am_inP 5 (by decide +kernel) rfl, rfl, by decide, by decide +kernel, by decide +kernel⟩
set_option maxRecDepth 100000 in
theorem am_d41 : am_okI am_m41 := by unfold am_okI; decide +kernel
def am_i42 : List (Nat × Instr × Nat) := [(0, .aload_n 0, 1), (1, .getfield 29, 3), (4, .invokevirtual 92, 3), (7, .pop, 1), (8, .aload_n 0, 1), (9, .getfield 29, 3), (12, .bipush 62, 2), (14, .invokevirtual 95, 3), (17, .return_, 1)]
def am_m42 : aM := (yX3_readClose, cX3_readClose, 1, none, 3, [], 0, am_i42)
theorem am_k42 : am_okM am_m42 := ⟨by decide +kernel, am_inP 739 (by decide +kernel) rfl, am_inP 5 (by decide +kernel) rfl, rfl, by decide, by decide +kernel, by decide +kernel⟩
set_option maxRecDepth 100000 in
theorem am_d42 : am_okI am_m42 := by unfold am_okI; decide +kernel
def am_i43 : List (Nat × Instr × Nat) := [(0, .aload_n 0, 1), (1, .invokespecial 3, 3), (4, .aload_n 0, 1), (5, .bipush 31, 2), (7, .newarray .int, 2), (9, .putfield 9, 3), (12, .aload_n 0, 1), (13, .bipush 31, 2), (15, .newarray .int, 2), (17, .putfield 15, 3), (20, .return_, 1)]
def am_m43 : aM := (yX4_init, cX4_init, 1, none, 4, [], 0, am_i43)
theorem am_k43 : am_okM am_m43 := ⟨by decide +kernel, am_inP 130 (by decide +kernel) rfl, am_inP 6 (by decide +kernel) rfl, rfl, by decide, by decide +kernel, by decide +kernel⟩
set_option maxRecDepth 100000 in
theorem am_d43 : am_okI am_m43 := by unfold am_okI; decide +kernel
def am_i44 : List (Nat × Instr × Nat) := [(0, .aload_n 0, 1), (1, .iload_n 1, 1), (2, .putfield 18, 3), (5, .aload_n 0, 1), (6, .iconst 0, 1), (7, .putfield 22, 3), (10, .aload_n 0, 1), (11, .iconst 0, 1), (12, .putfield 25, 3), (15, .aload_n 0, 1), (16, .getfield 15, 3), (19, .iconst 0, 1), (20, .iconst 0, 1), (21, .iastore, 1), (22, .aload_n 0, 1), (23, .iconst 1, 1), (24, .putfield 28, 3), (27, .return_, 1)]
def am_m44 : aM := (yX4_start, cX4_start, 2, none, 4, [], 1, am_i44)
theorem am_k44 : am_okM am_m44 := ⟨by decide +kernel, am_inP 553 (by decide +kernel) rfl, am_inP 6 (by decide +kernel) rfl, rfl, by decide, by decide +kernel, by decide +kernel⟩
set_option maxRecDepth 100000 in
theorem am_d44 : am_okI am_m44 := by unfold am_okI; decide +kernel
def am_i45 : List (Nat × Instr × Nat) := [(0, .aload_n 0, 1), (1, .getfield 25, 3), (4, .bipush 30, 2), (6, .if_icmp .lt 11, 3), (9, .new 31, 3), (12, .dup, 1), (13, .invokespecial 33, 3), (16, .athrow, 1), (17, .aload_n 0, 1), (18, .dup, 1), (19, .getfield 25, 3), (22, .iconst 1, 1), (23, .iadd, 1), (24, .putfield 25, 3), (27, .aload_n 0, 1), (28, .getfield 9, 3), (31, .aload_n 0, 1), (32, .getfield 25, 3), (35, .iload_n 1, 1), (36, .iastore, 1), (37, .aload_n 0, 1), (38, .getfield 15, 3), (41, .aload_n 0, 1), (42, .getfield 25, 3), (45, .iconst 0, 1), (46, .iastore, 1), (47, .iconst 1, 1), (48, .aload_n 0, 1), (49, .getfield 25, 3), (52, .ishl, 1), (53, .ireturn, 1)]
def am_m45 : aM := (yX4_addPlace, cX4_addPlace, 2, some .int, 4, [], 1, am_i45)
theorem am_k45 : am_okM am_m45 := ⟨by decide +kernel, am_inP 721 (by decide +kernel) rfl, am_inP 6 (by decide +kernel) rfl, rfl, by decide, by decide +kernel, by decide +kernel⟩
set_option maxRecDepth 100000 in
theorem am_d45 : am_okI am_m45 := by unfold am_okI; decide +kernel
def am_i46 : List (Nat × Instr × Nat) := [(0, .iconst 0, 1), (1, .istore_n 3, 1), (2, .iload_n 3, 1), (3, .aload_n 0, 1), (4, .getfield 25, 3), (7, .if_icmp .gt 27, 3), (10, .iload_n 1, 1), (11, .iload_n 3, 1), (12, .ishr, 1), (13, .iconst 1, 1), (14, .iand, 1), (15, .ifCond .eq 13, 3), (18, .aload_n 0, 1), (19, .getfield 15, 3), (22, .iload_n 3, 1), (23, .dup2, 1), (24, .iaload, 1), (25, .iload_n 2, 1), (26, .ior, 1), (27, .iastore, 1), (28, .iinc 3 1, 3), (31, .goto (-29), 3), (34, .return_, 1)]
def am_m46 : aM := (yX4_link, cX4_link, 4, none, 4, [], 2, am_i46)
theorem am_k46 : am_okM am_m46 := ⟨by decide +kernel, am_inP 735 (by decide +kernel) rfl, am_inP 6 (by decide +kernel) rfl, rfl, by decide, by decide +kernel, by decide +kernel⟩
set_option maxRecDepth 100000 in
theorem am_d46 : am_okI am_m46 := by unfold am_okI; decide +kernel
def am_i47 : List (Nat × Instr × Nat) := [(0, .iconst 0, 1), (1, .istore_n 1, 1), (2, .iload_n 1, 1), (3, .aload_n 0, 1), (4, .getfield 25, 3), (7, .if_icmp .gt 24, 3), (10, .aload_n 0, 1), (11, .aload_n 0, 1), (12, .getfield 15, 3), (15, .iload_n 1, 1), (16, .iaload, 1), (17, .invokevirtual 34, 3), (20, .ifCond .ne 5, 3), (23, .iconst 0, 1), (24, .ireturn, 1), (25, .iinc 1 1, 3), (28, .goto (-26), 3), (31, .iconst 1, 1), (32, .ireturn, 1)]
def am_m47 : aM := (yX4_isPlain, cX4_isPlain, 2, some .boolean, 4, [], 0, am_i47)
theorem am_k47 : am_okM am_m47 := ⟨by decide +kernel, am_inP 966 (by decide +kernel) rfl, am_inP 6 (by decide +kernel) rfl, rfl, by decide, by decide +kernel, by decide +kernel⟩
set_option maxRecDepth 100000 in
theorem am_d47 : am_okI am_m47 := by unfold am_okI; decide +kernel
def am_i48 : List (Nat × Instr × Nat) := [(0, .iconst 0, 1), (1, .istore_n 2, 1), (2, .iconst 1, 1), (3, .istore_n 3, 1), (4, .iload_n 3, 1), (5, .aload_n 0, 1), (6, .getfield 25, 3), (9, .if_icmp .gt 44, 3), (12, .iconst 1, 1), (13, .aload_n 0, 1), (14, .getfield 9, 3), (17, .iload_n 3, 1), (18, .iaload, 1), (19, .bipush 97, 2), (21, .isub, 1), (22, .ishl, 1), (23, .istore 4, 2), (25, .iload_n 1, 1), (26, .iload_n 3, 1), (27, .ishr, 1), (28, .iconst 1, 1), (29, .iand, 1), (30, .ifCond .eq 17, 3), (33, .iload_n 2, 1), (34, .iload 4, 2), (36, .iand, 1), (37, .ifCond .eq 5, 3), (40, .iconst 0, 1), (41, .ireturn, 1), (42, .iload_n 2, 1), (43, .iload 4, 2), (45, .ior, 1), (46, .istore_n 2, 1), (47, .iinc 3 1, 3), (50, .goto (-46), 3), (53, .iconst 1, 1), (54, .ireturn, 1)]
def am_m48 : aM := (yX4_areDifferent, cX4_areDifferent, 5, some .boolean, 4, [], 1, am_i48)
theorem am_k48 : am_okM am_m48 := ⟨by decide +kernel, am_inP 970 (by decide +kernel) rfl, am_inP 6 (by decide +kernel) rfl, rfl, by decide, by decide +kernel, by decide +kernel⟩
set_option maxRecDepth 100000 in
theorem am_d48 : am_okI am_m48 := by unfold am_okI; decide +kernel
def am_i49 : List (Nat × Instr × Nat) := [(0, .aload_n 0, 1), (1, .getfield 18, 3), (4, .tableswitch 61 1 4 #[32, 61, 34, 54], 32), (36, .iconst 0, 1), (37, .ireturn, 1), (38, .aload_n 0, 1), (39, .getfield 22, 3), (42, .iload_n 2, 1), (43, .bipush 97, 2), (45, .isub, 1), (46, .ishr, 1), (47, .iconst 1, 1), (48, .iand, 1), (49, .ifCond .eq 7, 3), (52, .iload_n 1, 1), (53, .goto 4, 3), (56, .iconst 0, 1), (57, .ireturn, 1), (58, .aload_n 0, 1), (59, .iload_n 1, 1), (60, .iload_n 2, 1), (61, .invokevirtual 38, 3), (64, .ireturn, 1), (65, .iload_n 1, 1), (66, .ireturn, 1)]
def am_m49 : aM := (yX4_withElement, cX4_withElement, 3, some .int, 4, [], 2, am_i49)
theorem am_k49 : am_okM am_m49 := ⟨by decide +kernel, am_inP 986 (by decide +kernel) rfl, am_inP 6 (by decide +kernel) rfl, rfl, by decide, by decide +kernel, by decide +kernel⟩
set_option maxRecDepth 100000 in
theorem am_d49 : am_okI am_m49 := by unfold am_okI; decide +kernel
def am_i50 : List (Nat × Instr × Nat) := [(0, .iconst 0, 1), (1, .istore_n 3, 1), (2, .iconst 0, 1), (3, .istore 4, 2), (5, .iload 4, 2), (7, .aload_n 0, 1), (8, .getfield 25, 3), (11, .if_icmp .gt 28, 3), (14, .iload_n 1, 1), (15, .iload 4, 2), (17, .ishr, 1), (18, .iconst 1, 1), (19, .iand, 1), (20, .ifCond .eq 13, 3), (23, .iload_n 3, 1), (24, .aload_n 0, 1), (25, .getfield 15, 3), (28, .iload 4, 2), (30, .iaload, 1), (31, .ior, 1), (32, .istore_n 3, 1), (33, .iinc 4 1, 3), (36, .goto (-31), 3), (39, .iconst 0, 1), (40, .istore 4, 2), (42, .iconst 1, 1), (43, .istore 5, 2), (45, .iload 5, 2), (47, .aload_n 0, 1), (48, .getfield 25, 3), (51, .if_icmp .gt 29, 3), (54, .aload_n 0, 1), (55, .getfield 9, 3), (58, .iload 5, 2), (60, .iaload, 1), (61, .iload_n 2, 1), (62, .if_icmp .ne 12, 3), (65, .iload 4, 2), (67, .iconst 1, 1), (68, .iload 5, 2), (70, .ishl, 1), (71, .ior, 1), (72, .istore 4, 2), (74, .iinc 5 1, 3), (77, .goto (-32), 3), (80, .iload_n 3, 1), (81, .iload 4, 2), (83, .iand, 1), (84, .ireturn, 1)]
def am_m50 : aM := (yX4_withPlace, cX4_withPlace, 6, some .int, 4, [], 2, am_i50)
theorem am_k50 : am_okM am_m50 := ⟨by decide +kernel, am_inP 990 (by decide +kernel) rfl, am_inP 6 (by decide +kernel) rfl, rfl, by decide, by decide +kernel, by decide +kernel⟩
set_option maxRecDepth 100000 in
theorem am_d50 : am_okI am_m50 := by unfold am_okI; decide +kernel
def am_i51 : List (Nat × Instr × Nat) := [(0, .aload_n 0, 1), (1, .getfield 18, 3), (4, .iconst 1, 1), (5, .if_icmp .eq 15, 3), (8, .aload_n 0, 1), (9, .getfield 18, 3), (12, .iconst 4, 1), (13, .if_icmp .ne 11, 3), (16, .iload_n 2, 1), (17, .ifCond .ne 7, 3), (20, .iconst 0, 1), (21, .goto 4, 3), (24, .iload_n 1, 1), (25, .ireturn, 1)]
def am_m51 : aM := (yX4_withText, cX4_withText, 3, some .int, 4, [], 2, am_i51)
theorem am_k51 : am_okM am_m51 := ⟨by decide +kernel, am_inP 1038 (by decide +kernel) rfl, am_inP 6 (by decide +kernel) rfl, rfl, by decide, by decide +kernel, by decide +kernel⟩
set_option maxRecDepth 100000 in
theorem am_d51 : am_okI am_m51 := by unfold am_okI; decide +kernel
def am_i52 : List (Nat × Instr × Nat) := [(0, .aload_n 0, 1), (1, .invokespecial 3, 3), (4, .aload_n 0, 1), (5, .aload_n 1, 1), (6, .putfield 9, 3), (9, .return_, 1)]
def am_m52 : aM := (yX5_init, cX5_init, 2, none, 5, [], 1, am_i52)
theorem am_k52 : am_okM am_m52 := ⟨by decide +kernel, am_inP 216 (by decide +kernel) rfl, am_inP 8 (by decide +kernel) rfl, rfl, by decide, by decide +kernel, by decide +kernel⟩
set_option maxRecDepth 100000 in
theorem am_d52 : am_okI am_m52 := by unfold am_okI; decide +kernel
def am_i53 : List (Nat × Instr × Nat) := [(0, .aload_n 0, 1), (1, .getfield 9, 3), (4, .ldc 15, 2), (6, .invokevirtual 17, 3), (9, .ifCond .eq 11, 3), (12, .aload_n 1, 1), (13, .iconst 1, 1), (14, .invokevirtual 25, 3), (17, .goto 109, 3), (20, .aload_n 0, 1), (21, .getfield 9, 3), (24, .ldc 29, 2), (26, .invokevirtual 17, 3), (29, .ifCond .eq 11, 3), (32, .aload_n 1, 1), (33, .iconst 2, 1), (34, .invokevirtual 25, 3), (37, .goto 89, 3), (40, .aload_n 0, 1), (41, .getfield 9, 3), (44, .bipush 40, 2), (46, .invokevirtual 31, 3), (49, .aload_n 0, 1), (50, .getfield 9, 3), (53, .invokevirtual 34, 3), (56, .pop, 1), (57, .aload_n 0, 1), (58, .getfield 9, 3), (61, .ldc 38, 2), (63, .invokevirtual 17, 3), (66, .ifCond .eq 11, 3), (69, .aload_n 0, 1), (70, .aload_n 1, 1), (71, .invokevirtual 40, 3), (74, .goto 52, 3), (77, .aload_n 1, 1), (78, .iconst 4, 1), (79, .invokevirtual 25, 3), (82, .aload_n 0, 1), (83, .aload_n 1, 1), (84, .iconst 1, 1), (85, .invokevirtual 44, 3), (88, .aload_n 0, 1), (89, .aload_n 1, 1), (90, .invokevirtual 48, 3), (93, .aload_n 1, 1), (94, .iconst 1, 1), (95, .aload_n 0, 1), (96, .getfield 51, 3), (99, .invokevirtual 55, 3), (102, .aload_n 1, 1), (103, .aload_n 0, 1), (104, .getfield 59, 3), (107, .ifCond .eq 12, 3), (110, .aload_n 0, 1), (111, .getfield 63, 3), (114, .iconst 1, 1), (115, .ior, 1), (116, .goto 7, 3), (119, .aload_n 0, 1), (120, .getfield 63, 3), (123, .putfield 66, 3), (126, .return_, 1)]
def am_m53 : aM := (yX5_read, cX5_read, 2, none, 5, [], 1, am_i53)
theorem am_k53 : am_okM am_m53 := ⟨by decide +kernel, am_inP 686 (by decide +kernel) rfl, am_inP 8 (by decide +kernel) rfl, rfl, by decide, by decide +kernel, by decide +kernel⟩
set_option maxRecDepth 100000 in
theorem am_d53 : am_okI am_m53 := by unfold am_okI; decide +kernel
def am_i54 : List (Nat × Instr × Nat) := [(0, .aload_n 1, 1), (1, .iconst 3, 1), (2, .invokevirtual 25, 3), (5, .iconst 0, 1), (6, .istore_n 2, 1), (7, .aload_n 0, 1), (8, .getfield 9, 3), (11, .invokevirtual 34, 3), (14, .pop, 1), (15, .iconst 0, 1), (16, .istore_n 3, 1), (17, .iload_n 3, 1), (18, .ldc 69, 2), (20, .if_icmp .ge 69, 3), (23, .aload_n 0, 1), (24, .getfield 9, 3), (27, .ldc 70, 2), (29, .invokevirtual 17, 3), (32, .ifCond .ne 57, 3), (35, .aload_n 0, 1), (36, .getfield 9, 3), (39, .bipush 124, 2), (41, .invokevirtual 31, 3), (44, .aload_n 0, 1), (45, .getfield 9, 3), (48, .invokevirtual 34, 3), (51, .pop, 1), (52, .aload_n 1, 1), (53, .dup, 1), (54, .getfield 72, 3), (57, .iconst 1, 1), (58, .aload_n 0, 1), (59, .getfield 9, 3), (62, .invokevirtual 75, 3), (65, .bipush 97, 2), (67, .isub, 1), (68, .ishl, 1), (69, .ior, 1), (70, .putfield 72, 3), (73, .iconst 1, 1), (74, .istore_n 2, 1), (75, .aload_n 0, 1), (76, .getfield 9, 3), (79, .invokevirtual 34, 3), (82, .pop, 1), (83, .iinc 3 1, 3), (86, .goto (-69), 3), (89, .aload_n 0, 1), (90, .getfield 9, 3), (93, .ldc 79, 2), (95, .invokevirtual 17, 3), (98, .ifCond .ne 15, 3), (101, .iload_n 2, 1), (102, .ifCond .eq 11, 3), (105, .new 81, 3), (108, .dup, 1), (109, .invokespecial 83, 3), (112, .athrow, 1), (113, .return_, 1)]
def am_m54 : aM := (yX5_readMixed, cX5_readMixed, 4, none, 5, [], 1, am_i54)
theorem am_k54 : am_okM am_m54 := ⟨by decide +kernel, am_inP 700 (by decide +kernel) rfl, am_inP 8 (by decide +kernel) rfl, rfl, by decide, by decide +kernel, by decide +kernel⟩
set_option maxRecDepth 100000 in
theorem am_d54 : am_okI am_m54 := by unfold am_okI; decide +kernel
def am_i55 : List (Nat × Instr × Nat) := [(0, .iload_n 2, 1), (1, .bipush 8, 2), (3, .if_icmp .le 11, 3), (6, .new 84, 3), (9, .dup, 1), (10, .invokespecial 86, 3), (13, .athrow, 1), (14, .aload_n 0, 1), (15, .getfield 9, 3), (18, .invokevirtual 34, 3), (21, .pop, 1), (22, .aload_n 0, 1), (23, .aload_n 1, 1), (24, .iload_n 2, 1), (25, .invokevirtual 87, 3), (28, .aload_n 0, 1), (29, .getfield 9, 3), (32, .invokevirtual 34, 3), (35, .pop, 1), (36, .aload_n 0, 1), (37, .getfield 9, 3), (40, .invokevirtual 90, 3), (43, .istore_n 3, 1), (44, .iload_n 3, 1), (45, .bipush 44, 2), (47, .if_icmp .eq 23, 3), (50, .iload_n 3, 1), (51, .bipush 124, 2), (53, .if_icmp .eq 17, 3), (56, .iload_n 3, 1), (57, .bipush 41, 2), (59, .if_icmp .eq 11, 3), (62, .new 81, 3), (65, .dup, 1), (66, .invokespecial 83, 3), (69, .athrow, 1), (70, .iconst 0, 1), (71, .istore 4, 2), (73, .iload 4, 2), (75, .ldc 69, 2), (77, .if_icmp .ge 178, 3), (80, .aload_n 0, 1), (81, .getfield 9, 3), (84, .ldc 70, 2), (86, .invokevirtual 17, 3), (89, .ifCond .ne 166, 3), (92, .aload_n 0, 1), (93, .getfield 51, 3), (96, .istore 5, 2), (98, .aload_n 0, 1), (99, .getfield 63, 3), (102, .istore 6, 2), (104, .aload_n 0, 1), (105, .getfield 59, 3), (108, .istore 7, 2), (110, .aload_n 0, 1), (111, .getfield 9, 3), (114, .iload_n 3, 1), (115, .invokevirtual 31, 3), (118, .aload_n 0, 1), (119, .getfield 9, 3), (122, .invokevirtual 34, 3), (125, .pop, 1), (126, .aload_n 0, 1), (127, .aload_n 1, 1), (128, .iload_n 2, 1), (129, .invokevirtual 87, 3), (132, .aload_n 0, 1), (133, .getfield 9, 3), (136, .invokevirtual 34, 3), (139, .pop, 1), (140, .iload_n 3, 1), (141, .bipush 124, 2), (143, .if_icmp .ne 39, 3), (146, .aload_n 0, 1), (147, .dup, 1), (148, .getfield 51, 3), (151, .iload 5, 2), (153, .ior, 1), (154, .putfield 51, 3), (157, .aload_n 0, 1), (158, .dup, 1), (159, .getfield 63, 3), (162, .iload 6, 2), (164, .ior, 1), (165, .putfield 63, 3), (168, .aload_n 0, 1), (169, .dup, 1), (170, .getfield 59, 3), (173, .iload 7, 2), (175, .ior, 1), (176, .putfield 59, 3), (179, .goto 70, 3), (182, .aload_n 1, 1), (183, .iload 6, 2), (185, .aload_n 0, 1), (186, .getfield 51, 3), (189, .invokevirtual 55, 3), (192, .aload_n 0, 1), (193, .iload 7, 2), (195, .ifCond .eq 13, 3), (198, .iload 5, 2), (200, .aload_n 0, 1), (201, .getfield 51, 3), (204, .ior, 1), (205, .goto 5, 3), (208, .iload 5, 2), (210, .putfield 51, 3), (213, .aload_n 0, 1), (214, .aload_n 0, 1), (215, .getfield 59, 3), (218, .ifCond .eq 13, 3), (221, .iload 6, 2), (223, .aload_n 0, 1), (224, .getfield 63, 3), (227, .ior, 1), (228, .goto 7, 3), (231, .aload_n 0, 1), (232, .getfield 63, 3), (235, .putfield 63, 3), (238, .aload_n 0, 1), (239, .dup, 1), (240, .getfield 59, 3), (243, .iload 7, 2), (245, .iand, 1), (246, .putfield 59, 3), (249, .iinc 4 1, 3), (252, .goto (-179), 3), (255, .return_, 1)]
def am_m55 : aM := (yX5_readGroup, cX5_readGroup, 8, none, 5, [], 2, am_i55)
theorem am_k55 : am_okM am_m55 := ⟨by decide +kernel, am_inP 710 (by decide +kernel) rfl, am_inP 8 (by decide +kernel) rfl, rfl, by decide, by decide +kernel, by decide +kernel⟩
set_option maxRecDepth 100000 in
theorem am_d55 : am_okI am_m55 := by unfold am_okI; decide +kernel
def am_i56 : List (Nat × Instr × Nat) := [(0, .aload_n 0, 1), (1, .getfield 9, 3), (4, .ldc 93, 2), (6, .invokevirtual 17, 3), (9, .ifCond .eq 14, 3), (12, .aload_n 0, 1), (13, .aload_n 1, 1), (14, .iload_n 2, 1), (15, .iconst 1, 1), (16, .iadd, 1), (17, .invokevirtual 44, 3), (20, .goto 31, 3), (23, .aload_n 0, 1), (24, .aload_n 1, 1), (25, .aload_n 0, 1), (26, .getfield 9, 3), (29, .invokevirtual 75, 3), (32, .invokevirtual 95, 3), (35, .putfield 51, 3), (38, .aload_n 0, 1), (39, .aload_n 0, 1), (40, .getfield 51, 3), (43, .putfield 63, 3), (46, .aload_n 0, 1), (47, .iconst 0, 1), (48, .putfield 59, 3), (51, .aload_n 0, 1), (52, .aload_n 1, 1), (53, .invokevirtual 48, 3), (56, .return_, 1)]
def am_m56 : aM := (yX5_readPart, cX5_readPart, 3, none, 5, [], 2, am_i56)
theorem am_k56 : am_okM am_m56 := ⟨by decide +kernel, am_inP 716 (by decide +kernel) rfl, am_inP 8 (by decide +kernel) rfl, rfl, by decide, by decide +kernel, by decide +kernel⟩
set_option maxRecDepth 100000 in
theorem am_d56 : am_okI am_m56 := by unfold am_okI; decide +kernel
def am_i57 : List (Nat × Instr × Nat) := [(0, .aload_n 0, 1), (1, .getfield 9, 3), (4, .invokevirtual 90, 3), (7, .istore_n 2, 1), (8, .iload_n 2, 1), (9, .bipush 42, 2), (11, .if_icmp .eq 9, 3), (14, .iload_n 2, 1), (15, .bipush 43, 2), (17, .if_icmp .ne 15, 3), (20, .aload_n 1, 1), (21, .aload_n 0, 1), (22, .getfield 63, 3), (25, .aload_n 0, 1), (26, .getfield 51, 3), (29, .invokevirtual 55, 3), (32, .iload_n 2, 1), (33, .bipush 42, 2), (35, .if_icmp .eq 9, 3), (38, .iload_n 2, 1), (39, .bipush 63, 2), (41, .if_icmp .ne 8, 3), (44, .aload_n 0, 1), (45, .iconst 1, 1), (46, .putfield 59, 3), (49, .iload_n 2, 1), (50, .bipush 42, 2), (52, .if_icmp .eq 15, 3), (55, .iload_n 2, 1), (56, .bipush 43, 2), (58, .if_icmp .eq 9, 3), (61, .iload_n 2, 1), (62, .bipush 63, 2), (64, .if_icmp .ne 11, 3), (67, .aload_n 0, 1), (68, .getfield 9, 3), (71, .iload_n 2, 1), (72, .invokevirtual 31, 3), (75, .return_, 1)]
def am_m57 : aM := (yX5_readSign, cX5_readSign, 3, none, 5, [], 1, am_i57)
theorem am_k57 : am_okM am_m57 := ⟨by decide +kernel, am_inP 727 (by decide +kernel) rfl, am_inP 8 (by decide +kernel) rfl, rfl, by decide, by decide +kernel, by decide +kernel⟩
set_option maxRecDepth 100000 in
theorem am_d57 : am_okI am_m57 := by unfold am_okI; decide +kernel
def am_i58 : List (Nat × Instr × Nat) := [(0, .aload_n 0, 1), (1, .invokespecial 3, 3), (4, .aload_n 0, 1), (5, .bipush 26, 2), (7, .newarray .int, 2), (9, .putfield 9, 3), (12, .aload_n 0, 1), (13, .bipush 26, 2), (15, .newarray .int, 2), (17, .putfield 15, 3), (20, .aload_n 0, 1), (21, .bipush 16, 2), (23, .newarray .int, 2), (25, .putfield 18, 3), (28, .aload_n 0, 1), (29, .bipush 16, 2), (31, .newarray .int, 2), (33, .putfield 21, 3), (36, .aload_n 0, 1), (37, .bipush 16, 2), (39, .newarray .int, 2), (41, .putfield 24, 3), (44, .aload_n 0, 1), (45, .aload_n 1, 1), (46, .putfield 27, 3), (49, .return_, 1)]
def am_m58 : aM := (yX6_init, cX6_init, 2, none, 6, [], 1, am_i58)
theorem am_k58 : am_okM am_m58 := ⟨by decide +kernel, am_inP 63 (by decide +kernel) rfl, am_inP 3 (by decide +kernel) rfl, rfl, by decide, by decide +kernel, by decide +kernel⟩
set_option maxRecDepth 100000 in
theorem am_d58 : am_okI am_m58 := by unfold am_okI; decide +kernel
def am_i59 : List (Nat × Instr × Nat) := [(0, .aload_n 0, 1), (1, .iload_n 1, 1), (2, .putfield 31, 3), (5, .aload_n 0, 1), (6, .iconst 0, 1), (7, .putfield 35, 3), (10, .aload_n 0, 1), (11, .iconst 0, 1), (12, .putfield 38, 3), (15, .iconst 0, 1), (16, .istore_n 2, 1), (17, .iload_n 2, 1), (18, .bipush 26, 2), (20, .if_icmp .ge 23, 3), (23, .aload_n 0, 1), (24, .getfield 9, 3), (27, .iload_n 2, 1), (28, .iconst (-1), 1), (29, .iastore, 1), (30, .aload_n 0, 1), (31, .getfield 15, 3), (34, .iload_n 2, 1), (35, .iconst (-1), 1), (36, .iastore, 1), (37, .iinc 2 1, 3), (40, .goto (-23), 3), (43, .return_, 1)]
def am_m59 : aM := (yX6_start, cX6_start, 3, none, 6, [], 1, am_i59)
theorem am_k59 : am_okM am_m59 := ⟨by decide +kernel, am_inP 513 (by decide +kernel) rfl, am_inP 3 (by decide +kernel) rfl, rfl, by decide, by decide +kernel, by decide +kernel⟩
set_option maxRecDepth 100000 in
theorem am_d59 : am_okI am_m59 := by unfold am_okI; decide +kernel
def am_i60 : List (Nat × Instr × Nat) := [(0, .iload_n 1, 1), (1, .bipush 97, 2), (3, .isub, 1), (4, .istore_n 3, 1), (5, .aload_n 0, 1), (6, .getfield 9, 3), (9, .iload_n 3, 1), (10, .iaload, 1), (11, .iconst (-1), 1), (12, .if_icmp .ne 23, 3), (15, .aload_n 0, 1), (16, .getfield 9, 3), (19, .iload_n 3, 1), (20, .iload_n 2, 1), (21, .iastore, 1), (22, .aload_n 0, 1), (23, .getfield 15, 3), (26, .iload_n 3, 1), (27, .aload_n 0, 1), (28, .getfield 27, 3), (31, .getfield 41, 3), (34, .iastore, 1), (35, .return_, 1)]
def am_m60 : aM := (yX6_declareText, cX6_declareText, 4, none, 6, [], 2, am_i60)
theorem am_k60 : am_okM am_m60 := ⟨by decide +kernel, am_inP 870 (by decide +kernel) rfl, am_inP 3 (by decide +kernel) rfl, rfl, by decide, by decide +kernel, by decide +kernel⟩
set_option maxRecDepth 100000 in
theorem am_d60 : am_okI am_m60 := by unfold am_okI; decide +kernel
def am_i61 : List (Nat × Instr × Nat) := [(0, .aload_n 0, 1), (1, .iload_n 1, 1), (2, .invokevirtual 46, 3), (5, .return_, 1)]
def am_m61 : aM := (yX6_openElement, cX6_openElement, 2, none, 6, [], 1, am_i61)
theorem am_k61 : am_okM am_m61 := ⟨by decide +kernel, am_inP 889 (by decide +kernel) rfl, am_inP 3 (by decide +kernel) rfl, rfl, by decide, by decide +kernel, by decide +kernel⟩
set_option maxRecDepth 100000 in
theorem am_d61 : am_okI am_m61 := by unfold am_okI; decide +kernel
end
section
def am_i62 : List (Nat × Instr × Nat) := [(0, .aload_n 0, 1), (1, .getfield 38, 3), (4, .ifCond .eq 18, 3), (7, .aload_n 0, 1), (8, .getfield 18, 3), (11, .aload_n 0, 1), (12, .getfield 38, 3), (15, .iconst 1, 1), (16, .isub, 1), (17, .iaload, 1), (18, .iload_n 1, 1), (19, .if_icmp .eq 11, 3), (22, .new 50, 3), (25, .dup, 1), (26, .invokespecial 52, 3), (29, .athrow, 1), (30, .aload_n 0, 1), (31, .dup, 1), (32, .getfield 38, 3), (35, .iconst 1, 1), (36, .isub, 1), (37, .putfield 38, 3), (40, .return_, 1)]
def am_m62 : aM := (yX6_closeElement, cX6_closeElement, 2, none, 6, [], 1, am_i62)
theorem am_k62 : am_okM am_m62 := ⟨by decide +kernel, am_inP 931 (by decide +kernel) rfl, am_inP 3 (by decide +kernel) rfl, rfl, by decide, by decide +kernel, by decide +kernel⟩
set_option maxRecDepth 100000 in
theorem am_d62 : am_okI am_m62 := by unfold am_okI; decide +kernel
def am_i63 : List (Nat × Instr × Nat) := [(0, .aload_n 0, 1), (1, .getfield 27, 3), (4, .invokevirtual 53, 3), (7, .istore_n 1, 1), (8, .aload_n 0, 1), (9, .getfield 27, 3), (12, .bipush 59, 2), (14, .invokevirtual 57, 3), (17, .iload_n 1, 1), (18, .bipush 97, 2), (20, .isub, 1), (21, .istore_n 2, 1), (22, .aload_n 0, 1), (23, .getfield 9, 3), (26, .iload_n 2, 1), (27, .iaload, 1), (28, .iconst (-1), 1), (29, .if_icmp .eq 11, 3), (32, .aload_n 0, 1), (33, .iload_n 1, 1), (34, .invokevirtual 60, 3), (37, .ifCond .eq 11, 3), (40, .new 50, 3), (43, .dup, 1), (44, .invokespecial 52, 3), (47, .athrow, 1), (48, .aload_n 0, 1), (49, .dup, 1), (50, .getfield 35, 3), (53, .aload_n 0, 1), (54, .getfield 15, 3), (57, .iload_n 2, 1), (58, .iaload, 1), (59, .aload_n 0, 1), (60, .getfield 9, 3), (63, .iload_n 2, 1), (64, .iaload, 1), (65, .isub, 1), (66, .iconst 1, 1), (67, .iadd, 1), (68, .iadd, 1), (69, .putfield 35, 3), (72, .aload_n 0, 1), (73, .getfield 35, 3), (76, .aload_n 0, 1), (77, .getfield 31, 3), (80, .if_icmp .le 11, 3), (83, .new 64, 3), (86, .dup, 1), (87, .invokespecial 66, 3), (90, .athrow, 1), (91, .aload_n 0, 1), (92, .iload_n 1, 1), (93, .ineg, 1), (94, .invokevirtual 46, 3), (97, .aload_n 0, 1), (98, .getfield 27, 3), (101, .aload_n 0, 1), (102, .getfield 9, 3), (105, .iload_n 2, 1), (106, .iaload, 1), (107, .putfield 67, 3), (110, .aload_n 0, 1), (111, .getfield 27, 3), (114, .aload_n 0, 1), (115, .getfield 15, 3), (118, .iload_n 2, 1), (119, .iaload, 1), (120, .putfield 70, 3), (123, .return_, 1)]
def am_m63 : aM := (yX6_enterText, cX6_enterText, 3, none, 6, [], 0, am_i63)
theorem am_k63 : am_okM am_m63 := ⟨by decide +kernel, am_inP 833 (by decide +kernel) rfl, am_inP 3 (by decide +kernel) rfl, rfl, by decide, by decide +kernel, by decide +kernel⟩
set_option maxRecDepth 100000 in
theorem am_d63 : am_okI am_m63 := by unfold am_okI; decide +kernel
def am_i64 : List (Nat × Instr × Nat) := [(0, .aload_n 0, 1), (1, .getfield 38, 3), (4, .ifCond .eq 17, 3), (7, .aload_n 0, 1), (8, .getfield 18, 3), (11, .aload_n 0, 1), (12, .getfield 38, 3), (15, .iconst 1, 1), (16, .isub, 1), (17, .iaload, 1), (18, .ifCond .le 11, 3), (21, .new 50, 3), (24, .dup, 1), (25, .invokespecial 52, 3), (28, .athrow, 1), (29, .aload_n 0, 1), (30, .dup, 1), (31, .getfield 38, 3), (34, .iconst 1, 1), (35, .isub, 1), (36, .putfield 38, 3), (39, .aload_n 0, 1), (40, .getfield 27, 3), (43, .aload_n 0, 1), (44, .getfield 21, 3), (47, .aload_n 0, 1), (48, .getfield 38, 3), (51, .iaload, 1), (52, .putfield 67, 3), (55, .aload_n 0, 1), (56, .getfield 27, 3), (59, .aload_n 0, 1), (60, .getfield 24, 3), (63, .aload_n 0, 1), (64, .getfield 38, 3), (67, .iaload, 1), (68, .putfield 70, 3), (71, .return_, 1)]
def am_m64 : aM := (yX6_leaveText, cX6_leaveText, 1, none, 6, [], 0, am_i64)
theorem am_k64 : am_okM am_m64 := ⟨by decide +kernel, am_inP 802 (by decide +kernel) rfl, am_inP 3 (by decide +kernel) rfl, rfl, by decide, by decide +kernel, by decide +kernel⟩
set_option maxRecDepth 100000 in
theorem am_d64 : am_okI am_m64 := by unfold am_okI; decide +kernel
def am_i65 : List (Nat × Instr × Nat) := [(0, .aload_n 0, 1), (1, .getfield 38, 3), (4, .bipush 16, 2), (6, .if_icmp .lt 11, 3), (9, .new 64, 3), (12, .dup, 1), (13, .invokespecial 66, 3), (16, .athrow, 1), (17, .aload_n 0, 1), (18, .getfield 18, 3), (21, .aload_n 0, 1), (22, .getfield 38, 3), (25, .iload_n 1, 1), (26, .iastore, 1), (27, .aload_n 0, 1), (28, .getfield 21, 3), (31, .aload_n 0, 1), (32, .getfield 38, 3), (35, .aload_n 0, 1), (36, .getfield 27, 3), (39, .getfield 67, 3), (42, .iastore, 1), (43, .aload_n 0, 1), (44, .getfield 24, 3), (47, .aload_n 0, 1), (48, .getfield 38, 3), (51, .aload_n 0, 1), (52, .getfield 27, 3), (55, .getfield 70, 3), (58, .iastore, 1), (59, .aload_n 0, 1), (60, .dup, 1), (61, .getfield 38, 3), (64, .iconst 1, 1), (65, .iadd, 1), (66, .putfield 38, 3), (69, .return_, 1)]
def am_m65 : aM := (yX6_push, cX6_push, 2, none, 6, [], 1, am_i65)
theorem am_k65 : am_okM am_m65 := ⟨by decide +kernel, am_inP 845 (by decide +kernel) rfl, am_inP 3 (by decide +kernel) rfl, rfl, by decide, by decide +kernel, by decide +kernel⟩
set_option maxRecDepth 100000 in
theorem am_d65 : am_okI am_m65 := by unfold am_okI; decide +kernel
def am_i66 : List (Nat × Instr × Nat) := [(0, .iconst 0, 1), (1, .istore_n 2, 1), (2, .iload_n 2, 1), (3, .aload_n 0, 1), (4, .getfield 38, 3), (7, .if_icmp .ge 22, 3), (10, .aload_n 0, 1), (11, .getfield 18, 3), (14, .iload_n 2, 1), (15, .iaload, 1), (16, .iload_n 1, 1), (17, .ineg, 1), (18, .if_icmp .ne 5, 3), (21, .iconst 1, 1), (22, .ireturn, 1), (23, .iinc 2 1, 3), (26, .goto (-24), 3), (29, .iconst 0, 1), (30, .ireturn, 1)]
def am_m66 : aM := (yX6_isBeingRead, cX6_isBeingRead, 3, some .boolean, 6, [], 1, am_i66)
theorem am_k66 : am_okM am_m66 := ⟨by decide +kernel, am_inP 839 (by decide +kernel) rfl, am_inP 3 (by decide +kernel) rfl, rfl, by decide, by decide +kernel, by decide +kernel⟩
set_option maxRecDepth 100000 in
theorem am_d66 : am_okI am_m66 := by unfold am_okI; decide +kernel
def am_i67 : List (Nat × Instr × Nat) := [(0, .aload_n 0, 1), (1, .invokespecial 3, 3), (4, .aload_n 0, 1), (5, .sipush 720, 3), (8, .newarray .int, 2), (10, .putfield 9, 3), (13, .return_, 1)]
def am_m67 : aM := (yX7_init, cX7_init, 1, none, 7, [], 0, am_i67)
theorem am_k67 : am_okM am_m67 := ⟨by decide +kernel, am_inP 37 (by decide +kernel) rfl, am_inP 2 (by decide +kernel) rfl, rfl, by decide, by decide +kernel, by decide +kernel⟩
set_option maxRecDepth 100000 in
theorem am_d67 : am_okI am_m67 := by unfold am_okI; decide +kernel
def am_i68 : List (Nat × Instr × Nat) := [(0, .aload_n 0, 1), (1, .iconst 0, 1), (2, .putfield 15, 3), (5, .iconst (-1), 1), (6, .istore_n 3, 1), (7, .iconst 0, 1), (8, .istore 4, 2), (10, .iload 4, 2), (12, .iload_n 2, 1), (13, .if_icmp .ge 83, 3), (16, .aload_n 1, 1), (17, .iload 4, 2), (19, .iaload, 1), (20, .invokestatic 19, 3), (23, .istore 5, 2), (25, .aload_n 1, 1), (26, .iload 4, 2), (28, .iload 5, 2), (30, .iload_n 2, 1), (31, .invokestatic 23, 3), (34, .istore 6, 2), (36, .iload 6, 2), (38, .invokestatic 27, 3), (41, .ifCond .ne 11, 3), (44, .new 31, 3), (47, .dup, 1), (48, .invokespecial 33, 3), (51, .athrow, 1), (52, .iload 6, 2), (54, .bipush 10, 2), (56, .if_icmp .ne 9, 3), (59, .iload_n 3, 1), (60, .bipush 13, 2), (62, .if_icmp .eq 21, 3), (65, .aload_n 0, 1), (66, .iload 6, 2), (68, .bipush 13, 2), (70, .if_icmp .ne 8, 3), (73, .bipush 10, 2), (75, .goto 5, 3), (78, .iload 6, 2), (80, .invokevirtual 34, 3), (83, .iload 6, 2), (85, .istore_n 3, 1), (86, .iload 4, 2), (88, .iload 5, 2), (90, .iadd, 1), (91, .istore 4, 2), (93, .goto (-83), 3), (96, .aload_n 0, 1), (97, .iconst 0, 1), (98, .putfield 38, 3), (101, .aload_n 0, 1), (102, .aload_n 0, 1), (103, .getfield 15, 3), (106, .putfield 41, 3), (109, .return_, 1)]
def am_m68 : aM := (yX7_load, cX7_load, 7, none, 7, [], 2, am_i68)
theorem am_k68 : am_okM am_m68 := ⟨by decide +kernel, am_inP 517 (by decide +kernel) rfl, am_inP 2 (by decide +kernel) rfl, rfl, by decide, by decide +kernel, by decide +kernel⟩
set_option maxRecDepth 100000 in
theorem am_d68 : am_okI am_m68 := by unfold am_okI; decide +kernel
def am_i69 : List (Nat × Instr × Nat) := [(0, .iload_n 0, 1), (1, .sipush 128, 3), (4, .if_icmp .ge 5, 3), (7, .iconst 1, 1), (8, .ireturn, 1), (9, .iload_n 0, 1), (10, .sipush 224, 3), (13, .if_icmp .ge 7, 3), (16, .iconst 2, 1), (17, .goto 4, 3), (20, .iconst 3, 1), (21, .ireturn, 1)]
def am_m69 : aM := (yX7_widthOf, cX7_widthOf, 1, some .int, 7, [], 1, am_i69)
theorem am_k69 : am_okM am_m69 := ⟨by decide +kernel, am_inP 520 (by decide +kernel) rfl, am_inP 2 (by decide +kernel) rfl, rfl, by decide, by decide +kernel, by decide +kernel⟩
set_option maxRecDepth 100000 in
theorem am_d69 : am_okI am_m69 := by unfold am_okI; decide +kernel
def am_i70 : List (Nat × Instr × Nat) := [(0, .aload_n 0, 1), (1, .iload_n 1, 1), (2, .iaload, 1), (3, .istore 4, 2), (5, .iload_n 2, 1), (6, .iconst 1, 1), (7, .if_icmp .ne 6, 3), (10, .iload 4, 2), (12, .ireturn, 1), (13, .iload 4, 2), (15, .sipush 194, 3), (18, .if_icmp .lt 18, 3), (21, .iload 4, 2), (23, .sipush 239, 3), (26, .if_icmp .gt 10, 3), (29, .iload_n 1, 1), (30, .iload_n 2, 1), (31, .iadd, 1), (32, .iload_n 3, 1), (33, .if_icmp .le 11, 3), (36, .new 31, 3), (39, .dup, 1), (40, .invokespecial 33, 3), (43, .athrow, 1), (44, .iload 4, 2), (46, .iload_n 2, 1), (47, .iconst 2, 1), (48, .if_icmp .ne 9, 3), (51, .sipush 192, 3), (54, .goto 6, 3), (57, .sipush 224, 3), (60, .isub, 1), (61, .istore 5, 2), (63, .iconst 1, 1), (64, .istore 6, 2), (66, .iload 6, 2), (68, .iload_n 2, 1), (69, .if_icmp .ge 55, 3), (72, .aload_n 0, 1), (73, .iload_n 1, 1), (74, .iload 6, 2), (76, .iadd, 1), (77, .iaload, 1), (78, .istore 7, 2), (80, .iload 7, 2), (82, .sipush 128, 3), (85, .if_icmp .lt 11, 3), (88, .iload 7, 2), (90, .sipush 191, 3), (93, .if_icmp .le 11, 3), (96, .new 31, 3), (99, .dup, 1), (100, .invokespecial 33, 3), (103, .athrow, 1), (104, .bipush 64, 2), (106, .iload 5, 2), (108, .imul, 1), (109, .iload 7, 2), (111, .sipush 128, 3), (114, .isub, 1), (115, .iadd, 1), (116, .istore 5, 2), (118, .iinc 6 1, 3), (121, .goto (-55), 3), (124, .iload_n 2, 1), (125, .iconst 3, 1), (126, .if_icmp .ne 19, 3), (129, .iload 5, 2), (131, .sipush 2048, 3), (134, .if_icmp .ge 11, 3), (137, .new 31, 3), (140, .dup, 1), (141, .invokespecial 33, 3), (144, .athrow, 1), (145, .iload 5, 2), (147, .ireturn, 1)]
def am_m70 : aM := (yX7_decoded, cX7_decoded, 8, some .int, 7, [], 4, am_i70)
theorem am_k70 : am_okM am_m70 := ⟨by decide +kernel, am_inP 523 (by decide +kernel) rfl, am_inP 2 (by decide +kernel) rfl, rfl, by decide, by decide +kernel, by decide +kernel⟩
set_option maxRecDepth 100000 in
theorem am_d70 : am_okI am_m70 := by unfold am_okI; decide +kernel
def am_i71 : List (Nat × Instr × Nat) := [(0, .aload_n 0, 1), (1, .getfield 15, 3), (4, .aload_n 0, 1), (5, .getfield 9, 3), (8, .arraylength, 1), (9, .if_icmp .lt 11, 3), (12, .new 44, 3), (15, .dup, 1), (16, .invokespecial 46, 3), (19, .athrow, 1), (20, .aload_n 0, 1), (21, .getfield 9, 3), (24, .aload_n 0, 1), (25, .getfield 15, 3), (28, .iload_n 1, 1), (29, .iastore, 1), (30, .aload_n 0, 1), (31, .dup, 1), (32, .getfield 15, 3), (35, .iconst 1, 1), (36, .iadd, 1), (37, .putfield 15, 3), (40, .return_, 1)]
def am_m71 : aM := (yX7_append, cX7_append, 2, none, 7, [], 1, am_i71)
theorem am_k71 : am_okM am_m71 := ⟨by decide +kernel, am_inP 535 (by decide +kernel) rfl, am_inP 2 (by decide +kernel) rfl, rfl, by decide, by decide +kernel, by decide +kernel⟩
set_option maxRecDepth 100000 in
theorem am_d71 : am_okI am_m71 := by unfold am_okI; decide +kernel
def am_i72 : List (Nat × Instr × Nat) := [(0, .aload_n 0, 1), (1, .getfield 38, 3), (4, .aload_n 0, 1), (5, .getfield 41, 3), (8, .if_icmp .ge 15, 3), (11, .aload_n 0, 1), (12, .getfield 9, 3), (15, .aload_n 0, 1), (16, .getfield 38, 3), (19, .iaload, 1), (20, .goto 4, 3), (23, .iconst (-1), 1), (24, .ireturn, 1)]
def am_m72 : aM := (yX7_peek, cX7_peek, 1, some .int, 7, [], 0, am_i72)
theorem am_k72 : am_okM am_m72 := ⟨by decide +kernel, am_inP 731 (by decide +kernel) rfl, am_inP 2 (by decide +kernel) rfl, rfl, by decide, by decide +kernel, by decide +kernel⟩
set_option maxRecDepth 100000 in
theorem am_d72 : am_okI am_m72 := by unfold am_okI; decide +kernel
def am_i73 : List (Nat × Instr × Nat) := [(0, .aload_n 0, 1), (1, .getfield 38, 3), (4, .aload_n 0, 1), (5, .getfield 41, 3), (8, .if_icmp .lt 11, 3), (11, .new 31, 3), (14, .dup, 1), (15, .invokespecial 33, 3), (18, .athrow, 1), (19, .aload_n 0, 1), (20, .getfield 9, 3), (23, .aload_n 0, 1), (24, .getfield 38, 3), (27, .iaload, 1), (28, .istore_n 1, 1), (29, .aload_n 0, 1), (30, .dup, 1), (31, .getfield 38, 3), (34, .iconst 1, 1), (35, .iadd, 1), (36, .putfield 38, 3), (39, .iload_n 1, 1), (40, .ireturn, 1)]
def am_m73 : aM := (yX7_take, cX7_take, 2, some .int, 7, [], 0, am_i73)
theorem am_k73 : am_okM am_m73 := ⟨by decide +kernel, am_inP 633 (by decide +kernel) rfl, am_inP 2 (by decide +kernel) rfl, rfl, by decide, by decide +kernel, by decide +kernel⟩
set_option maxRecDepth 100000 in
theorem am_d73 : am_okI am_m73 := by unfold am_okI; decide +kernel
def am_i74 : List (Nat × Instr × Nat) := [(0, .aload_n 0, 1), (1, .getfield 38, 3), (4, .aload_n 0, 1), (5, .getfield 41, 3), (8, .if_icmp .ge 16, 3), (11, .aload_n 0, 1), (12, .getfield 9, 3), (15, .aload_n 0, 1), (16, .getfield 38, 3), (19, .iaload, 1), (20, .iload_n 1, 1), (21, .if_icmp .eq 11, 3), (24, .new 31, 3), (27, .dup, 1), (28, .invokespecial 33, 3), (31, .athrow, 1), (32, .aload_n 0, 1), (33, .dup, 1), (34, .getfield 38, 3), (37, .iconst 1, 1), (38, .iadd, 1), (39, .putfield 38, 3), (42, .return_, 1)]
def am_m74 : aM := (yX7_pass, cX7_pass, 2, none, 7, [], 1, am_i74)
theorem am_k74 : am_okM am_m74 := ⟨by decide +kernel, am_inP 694 (by decide +kernel) rfl, am_inP 2 (by decide +kernel) rfl, rfl, by decide, by decide +kernel, by decide +kernel⟩
set_option maxRecDepth 100000 in
theorem am_d74 : am_okI am_m74 := by unfold am_okI; decide +kernel
def am_i75 : List (Nat × Instr × Nat) := [(0, .aload_n 0, 1), (1, .getfield 38, 3), (4, .aload_n 0, 1), (5, .getfield 41, 3), (8, .if_icmp .ge 18, 3), (11, .aload_n 0, 1), (12, .getfield 9, 3), (15, .aload_n 0, 1), (16, .getfield 38, 3), (19, .iaload, 1), (20, .invokestatic 47, 3), (23, .ifCond .ne 11, 3), (26, .new 31, 3), (29, .dup, 1), (30, .invokespecial 33, 3), (33, .athrow, 1), (34, .aload_n 0, 1), (35, .getfield 9, 3), (38, .aload_n 0, 1), (39, .getfield 38, 3), (42, .iaload, 1), (43, .istore_n 1, 1), (44, .aload_n 0, 1), (45, .dup, 1), (46, .getfield 38, 3), (49, .iconst 1, 1), (50, .iadd, 1), (51, .putfield 38, 3), (54, .iload_n 1, 1), (55, .ireturn, 1)]
def am_m75 : aM := (yX7_takeName, cX7_takeName, 2, some .int, 7, [], 0, am_i75)
theorem am_k75 : am_okM am_m75 := ⟨by decide +kernel, am_inP 647 (by decide +kernel) rfl, am_inP 2 (by decide +kernel) rfl, rfl, by decide, by decide +kernel, by decide +kernel⟩
set_option maxRecDepth 100000 in
theorem am_d75 : am_okI am_m75 := by unfold am_okI; decide +kernel
def am_i76 : List (Nat × Instr × Nat) := [(0, .aload_n 1, 1), (1, .invokevirtual 50, 3), (4, .aload_n 0, 1), (5, .getfield 41, 3), (8, .aload_n 0, 1), (9, .getfield 38, 3), (12, .isub, 1), (13, .if_icmp .le 5, 3), (16, .iconst 0, 1), (17, .ireturn, 1), (18, .iconst 0, 1), (19, .istore_n 2, 1), (20, .iload_n 2, 1), (21, .aload_n 1, 1), (22, .invokevirtual 50, 3), (25, .if_icmp .ge 30, 3), (28, .aload_n 0, 1), (29, .getfield 9, 3), (32, .aload_n 0, 1), (33, .getfield 38, 3), (36, .iload_n 2, 1), (37, .iadd, 1), (38, .iaload, 1), (39, .aload_n 1, 1), (40, .iload_n 2, 1), (41, .invokevirtual 56, 3), (44, .if_icmp .eq 5, 3), (47, .iconst 0, 1), (48, .ireturn, 1), (49, .iinc 2 1, 3), (52, .goto (-32), 3), (55, .iconst 1, 1), (56, .ireturn, 1)]
def am_m76 : aM := (yX7_looksAt, cX7_looksAt, 3, some .boolean, 7, [], 1, am_i76)
theorem am_k76 : am_okM am_m76 := ⟨by decide +kernel, am_inP 578 (by decide +kernel) rfl, am_inP 2 (by decide +kernel) rfl, rfl, by decide, by decide +kernel, by decide +kernel⟩
set_option maxRecDepth 100000 in
theorem am_d76 : am_okI am_m76 := by unfold am_okI; decide +kernel
def am_i77 : List (Nat × Instr × Nat) := [(0, .aload_n 0, 1), (1, .aload_n 1, 1), (2, .invokevirtual 60, 3), (5, .istore_n 2, 1), (6, .iload_n 2, 1), (7, .ifCond .eq 16, 3), (10, .aload_n 0, 1), (11, .dup, 1), (12, .getfield 38, 3), (15, .aload_n 1, 1), (16, .invokevirtual 50, 3), (19, .iadd, 1), (20, .putfield 38, 3), (23, .iload_n 2, 1), (24, .ireturn, 1)]
def am_m77 : aM := (yX7_skip, cX7_skip, 3, some .boolean, 7, [], 1, am_i77)
theorem am_k77 : am_okM am_m77 := ⟨by decide +kernel, am_inP 574 (by decide +kernel) rfl, am_inP 2 (by decide +kernel) rfl, rfl, by decide, by decide +kernel, by decide +kernel⟩
set_option maxRecDepth 100000 in
theorem am_d77 : am_okI am_m77 := by unfold am_okI; decide +kernel
def am_i78 : List (Nat × Instr × Nat) := [(0, .aload_n 0, 1), (1, .getfield 38, 3), (4, .istore_n 1, 1), (5, .aload_n 0, 1), (6, .getfield 38, 3), (9, .aload_n 0, 1), (10, .getfield 41, 3), (13, .if_icmp .ge 31, 3), (16, .aload_n 0, 1), (17, .getfield 9, 3), (20, .aload_n 0, 1), (21, .getfield 38, 3), (24, .iaload, 1), (25, .invokestatic 64, 3), (28, .ifCond .eq 16, 3), (31, .aload_n 0, 1), (32, .dup, 1), (33, .getfield 38, 3), (36, .iconst 1, 1), (37, .iadd, 1), (38, .putfield 38, 3), (41, .goto (-36), 3), (44, .aload_n 0, 1), (45, .getfield 38, 3), (48, .iload_n 1, 1), (49, .if_icmp .le 7, 3), (52, .iconst 1, 1), (53, .goto 4, 3), (56, .iconst 0, 1), (57, .ireturn, 1)]
def am_m78 : aM := (yX7_skipBlanks, cX7_skipBlanks, 2, some .boolean, 7, [], 0, am_i78)
theorem am_k78 : am_okM am_m78 := ⟨by decide +kernel, am_inP 562 (by decide +kernel) rfl, am_inP 2 (by decide +kernel) rfl, rfl, by decide, by decide +kernel, by decide +kernel⟩
set_option maxRecDepth 100000 in
theorem am_d78 : am_okI am_m78 := by unfold am_okI; decide +kernel
def am_i79 : List (Nat × Instr × Nat) := [(0, .aload_n 0, 1), (1, .invokevirtual 67, 3), (4, .ifCond .ne 11, 3), (7, .new 31, 3), (10, .dup, 1), (11, .invokespecial 33, 3), (14, .athrow, 1), (15, .return_, 1)]
def am_m79 : aM := (yX7_needBlanks, cX7_needBlanks, 1, none, 7, [], 0, am_i79)
theorem am_k79 : am_okM am_m79 := ⟨by decide +kernel, am_inP 643 (by decide +kernel) rfl, am_inP 2 (by decide +kernel) rfl, rfl, by decide, by decide +kernel, by decide +kernel⟩
set_option maxRecDepth 100000 in
theorem am_d79 : am_okI am_m79 := by unfold am_okI; decide +kernel
def am_i80 : List (Nat × Instr × Nat) := [(0, .aload_n 0, 1), (1, .getfield 38, 3), (4, .istore_n 1, 1), (5, .aload_n 0, 1), (6, .getfield 38, 3), (9, .aload_n 0, 1), (10, .getfield 41, 3), (13, .if_icmp .ge 31, 3), (16, .aload_n 0, 1), (17, .getfield 9, 3), (20, .aload_n 0, 1), (21, .getfield 38, 3), (24, .iaload, 1), (25, .invokestatic 71, 3), (28, .ifCond .eq 16, 3), (31, .aload_n 0, 1), (32, .dup, 1), (33, .getfield 38, 3), (36, .iconst 1, 1), (37, .iadd, 1), (38, .putfield 38, 3), (41, .goto (-36), 3), (44, .aload_n 0, 1), (45, .getfield 38, 3), (48, .iload_n 1, 1), (49, .if_icmp .ne 11, 3), (52, .new 31, 3), (55, .dup, 1), (56, .invokespecial 33, 3), (59, .athrow, 1), (60, .return_, 1)]
def am_m80 : aM := (yX7_needToken, cX7_needToken, 2, none, 7, [], 0, am_i80)
theorem am_k80 : am_okM am_m80 := ⟨by decide +kernel, am_inP 766 (by decide +kernel) rfl, am_inP 2 (by decide +kernel) rfl, rfl, by decide, by decide +kernel, by decide +kernel⟩
set_option maxRecDepth 100000 in
theorem am_d80 : am_okI am_m80 := by unfold am_okI; decide +kernel
def am_i81 : List (Nat × Instr × Nat) := [(0, .aload_n 0, 1), (1, .ldc 74, 2), (3, .invokevirtual 76, 3), (6, .ifCond .ne 5, 3), (9, .iconst 0, 1), (10, .ireturn, 1), (11, .iconst 0, 1), (12, .istore_n 1, 1), (13, .iload_n 1, 1), (14, .ldc 79, 2), (16, .if_icmp .ge 49, 3), (19, .aload_n 0, 1), (20, .ldc 80, 2), (22, .invokevirtual 76, 3), (25, .ifCond .ne 40, 3), (28, .aload_n 0, 1), (29, .ldc 82, 2), (31, .invokevirtual 60, 3), (34, .ifCond .eq 20, 3), (37, .aload_n 0, 1), (38, .ldc 84, 2), (40, .invokevirtual 60, 3), (43, .ifCond .ne 11, 3), (46, .new 31, 3), (49, .dup, 1), (50, .invokespecial 33, 3), (53, .athrow, 1), (54, .aload_n 0, 1), (55, .invokevirtual 86, 3), (58, .pop, 1), (59, .iinc 1 1, 3), (62, .goto (-49), 3), (65, .iconst 1, 1), (66, .ireturn, 1)]
def am_m81 : aM := (yX7_skipComment, cX7_skipComment, 2, some .boolean, 7, [], 0, am_i81)
theorem am_k81 : am_okM am_m81 := ⟨by decide +kernel, am_inP 569 (by decide +kernel) rfl, am_inP 2 (by decide +kernel) rfl, rfl, by decide, by decide +kernel, by decide +kernel⟩
set_option maxRecDepth 100000 in
theorem am_d81 : am_okI am_m81 := by unfold am_okI; decide +kernel
def am_i82 : List (Nat × Instr × Nat) := [(0, .iconst 1, 1), (1, .istore_n 1, 1), (2, .iconst 0, 1), (3, .istore_n 2, 1), (4, .iload_n 2, 1), (5, .ldc 79, 2), (7, .if_icmp .ge 33, 3), (10, .iload_n 1, 1), (11, .ifCond .eq 29, 3), (14, .aload_n 0, 1), (15, .invokevirtual 67, 3), (18, .ifCond .ne 10, 3), (21, .aload_n 0, 1), (22, .invokevirtual 89, 3), (25, .ifCond .eq 7, 3), (28, .iconst 1, 1), (29, .goto 4, 3), (32, .iconst 0, 1), (33, .istore_n 1, 1), (34, .iinc 2 1, 3), (37, .goto (-33), 3), (40, .return_, 1)]
def am_m82 : aM := (yX7_skipBlanksAndComments, cX7_skipBlanksAndComments, 3, none, 7, [], 0, am_i82)
theorem am_k82 : am_okM am_m82 := ⟨by decide +kernel, am_inP 557 (by decide +kernel) rfl, am_inP 2 (by decide +kernel) rfl, rfl, by decide, by decide +kernel, by decide +kernel⟩
set_option maxRecDepth 100000 in
theorem am_d82 : am_okI am_m82 := by unfold am_okI; decide +kernel
def am_i83 : List (Nat × Instr × Nat) := [(0, .aload_n 0, 1), (1, .ldc 92, 2), (3, .invokevirtual 76, 3), (6, .ifCond .eq 8, 3), (9, .aload_n 0, 1), (10, .invokevirtual 94, 3), (13, .ireturn, 1), (14, .aload_n 0, 1), (15, .ldc 97, 2), (17, .invokevirtual 76, 3), (20, .ifCond .eq 6, 3), (23, .bipush 60, 2), (25, .ireturn, 1), (26, .aload_n 0, 1), (27, .ldc 99, 2), (29, .invokevirtual 76, 3), (32, .ifCond .eq 6, 3), (35, .bipush 38, 2), (37, .ireturn, 1), (38, .aload_n 0, 1), (39, .bipush 38, 2), (41, .invokevirtual 101, 3), (44, .iconst (-1), 1), (45, .ireturn, 1)]
def am_m83 : aM := (yX7_takeReference, cX7_takeReference, 1, some .int, 7, [], 0, am_i83)
theorem am_k83 : am_okM am_m83 := ⟨by decide +kernel, am_inP 818 (by decide +kernel) rfl, am_inP 2 (by decide +kernel) rfl, rfl, by decide, by decide +kernel, by decide +kernel⟩
set_option maxRecDepth 100000 in
theorem am_d83 : am_okI am_m83 := by unfold am_okI; decide +kernel
def am_i84 : List (Nat × Instr × Nat) := [(0, .aload_n 0, 1), (1, .getfield 38, 3), (4, .istore_n 1, 1), (5, .iconst 0, 1), (6, .istore_n 2, 1), (7, .aload_n 0, 1), (8, .getfield 38, 3), (11, .aload_n 0, 1), (12, .getfield 41, 3), (15, .if_icmp .ge 60, 3), (18, .aload_n 0, 1), (19, .getfield 38, 3), (22, .iload_n 1, 1), (23, .isub, 1), (24, .bipush 6, 2), (26, .if_icmp .ge 49, 3), (29, .aload_n 0, 1), (30, .getfield 9, 3), (33, .aload_n 0, 1), (34, .getfield 38, 3), (37, .iaload, 1), (38, .invokestatic 104, 3), (41, .ifCond .eq 34, 3), (44, .bipush 10, 2), (46, .iload_n 2, 1), (47, .imul, 1), (48, .aload_n 0, 1), (49, .getfield 9, 3), (52, .aload_n 0, 1), (53, .getfield 38, 3), (56, .iaload, 1), (57, .bipush 48, 2), (59, .isub, 1), (60, .iadd, 1), (61, .istore_n 2, 1), (62, .aload_n 0, 1), (63, .dup, 1), (64, .getfield 38, 3), (67, .iconst 1, 1), (68, .iadd, 1), (69, .putfield 38, 3), (72, .goto (-65), 3), (75, .aload_n 0, 1), (76, .getfield 38, 3), (79, .iload_n 1, 1), (80, .if_icmp .eq 10, 3), (83, .iload_n 2, 1), (84, .invokestatic 27, 3), (87, .ifCond .ne 11, 3), (90, .new 31, 3), (93, .dup, 1), (94, .invokespecial 33, 3), (97, .athrow, 1), (98, .aload_n 0, 1), (99, .bipush 59, 2), (101, .invokevirtual 101, 3), (104, .iload_n 2, 1), (105, .ireturn, 1)]
def am_m84 : aM := (yX7_takeNumber, cX7_takeNumber, 3, some .int, 7, [], 0, am_i84)
theorem am_k84 : am_okM am_m84 := ⟨by decide +kernel, am_inP 823 (by decide +kernel) rfl, am_inP 2 (by decide +kernel) rfl, rfl, by decide, by decide +kernel, by decide +kernel⟩
set_option maxRecDepth 100000 in
theorem am_d84 : am_okI am_m84 := by unfold am_okI; decide +kernel
def am_i85 : List (Nat × Instr × Nat) := [(0, .aload_n 0, 1), (1, .invokespecial 3, 3), (4, .aload_n 0, 1), (5, .aload_n 1, 1), (6, .putfield 9, 3), (9, .aload_n 0, 1), (10, .aload_n 2, 1), (11, .putfield 15, 3), (14, .aload_n 0, 1), (15, .aload_n 3, 1), (16, .putfield 19, 3), (19, .aload_n 0, 1), (20, .aload 4, 2), (22, .putfield 23, 3), (25, .aload_n 0, 1), (26, .aload 5, 2), (28, .putfield 27, 3), (31, .return_, 1)]
def am_m85 : aM := (yX8_init, cX8_init, 6, none, 8, [], 5, am_i85)
theorem am_k85 : am_okM am_m85 := ⟨by decide +kernel, am_inP 312 (by decide +kernel) rfl, am_inP 10 (by decide +kernel) rfl, rfl, by decide, by decide +kernel, by decide +kernel⟩
set_option maxRecDepth 100000 in
theorem am_d85 : am_okI am_m85 := by unfold am_okI; decide +kernel
def am_i86 : List (Nat × Instr × Nat) := [(0, .aload_n 0, 1), (1, .getfield 27, 3), (4, .invokevirtual 31, 3), (7, .aload_n 0, 1), (8, .invokevirtual 36, 3), (11, .iconst 0, 1), (12, .istore_n 1, 1), (13, .iload_n 1, 1), (14, .ldc 39, 2), (16, .if_icmp .ge 111, 3), (19, .aload_n 0, 1), (20, .getfield 15, 3), (23, .getfield 40, 3), (26, .ifCond .le 101, 3), (29, .aload_n 0, 1), (30, .getfield 9, 3), (33, .invokevirtual 46, 3), (36, .istore_n 2, 1), (37, .iload_n 2, 1), (38, .iconst (-1), 1), (39, .if_icmp .ne 13, 3), (42, .aload_n 0, 1), (43, .getfield 15, 3), (46, .invokevirtual 52, 3), (49, .goto 72, 3), (52, .iload_n 2, 1), (53, .bipush 38, 2), (55, .if_icmp .ne 10, 3), (58, .aload_n 0, 1), (59, .invokevirtual 55, 3), (62, .goto 59, 3), (65, .iload_n 2, 1), (66, .bipush 60, 2), (68, .if_icmp .eq 20, 3), (71, .aload_n 0, 1), (72, .getfield 27, 3), (75, .aload_n 0, 1), (76, .getfield 9, 3), (79, .invokevirtual 58, 3), (82, .invokevirtual 61, 3), (85, .goto 36, 3), (88, .aload_n 0, 1), (89, .getfield 9, 3), (92, .ldc 65, 2), (94, .invokevirtual 67, 3), (97, .ifCond .eq 10, 3), (100, .aload_n 0, 1), (101, .invokevirtual 71, 3), (104, .goto 17, 3), (107, .aload_n 0, 1), (108, .getfield 9, 3), (111, .invokevirtual 74, 3), (114, .ifCond .ne 7, 3), (117, .aload_n 0, 1), (118, .invokevirtual 36, 3), (121, .iinc 1 1, 3), (124, .goto (-111), 3), (127, .aload_n 0, 1), (128, .getfield 9, 3), (131, .invokevirtual 78, 3), (134, .aload_n 0, 1), (135, .getfield 9, 3), (138, .invokevirtual 46, 3), (141, .iconst (-1), 1), (142, .if_icmp .eq 11, 3), (145, .new 81, 3), (148, .dup, 1), (149, .invokespecial 83, 3), (152, .athrow, 1), (153, .return_, 1)]
def am_m86 : aM := (yX8_read, cX8_read, 3, none, 8, [], 0, am_i86)
theorem am_k86 : am_okM am_m86 := ⟨by decide +kernel, am_inP 875 (by decide +kernel) rfl, am_inP 10 (by decide +kernel) rfl, rfl, by decide, by decide +kernel, by decide +kernel⟩
set_option maxRecDepth 100000 in
theorem am_d86 : am_okI am_m86 := by unfold am_okI; decide +kernel
def am_i87 : List (Nat × Instr × Nat) := [(0, .aload_n 0, 1), (1, .getfield 9, 3), (4, .invokevirtual 84, 3), (7, .istore_n 1, 1), (8, .iload_n 1, 1), (9, .iconst (-1), 1), (10, .if_icmp .ne 13, 3), (13, .aload_n 0, 1), (14, .getfield 15, 3), (17, .invokevirtual 87, 3), (20, .goto 11, 3), (23, .aload_n 0, 1), (24, .getfield 27, 3), (27, .iload_n 1, 1), (28, .invokevirtual 61, 3), (31, .return_, 1)]
def am_m87 : aM := (yX8_readReference, cX8_readReference, 2, none, 8, [], 0, am_i87)
theorem am_k87 : am_okM am_m87 := ⟨by decide +kernel, am_inP 936 (by decide +kernel) rfl, am_inP 10 (by decide +kernel) rfl, rfl, by decide, by decide +kernel, by decide +kernel⟩
set_option maxRecDepth 100000 in
theorem am_d87 : am_okI am_m87 := by unfold am_okI; decide +kernel
def am_i88 : List (Nat × Instr × Nat) := [(0, .aload_n 0, 1), (1, .getfield 9, 3), (4, .bipush 60, 2), (6, .invokevirtual 90, 3), (9, .aload_n 0, 1), (10, .getfield 9, 3), (13, .invokevirtual 93, 3), (16, .istore_n 1, 1), (17, .aload_n 0, 1), (18, .getfield 15, 3), (21, .iload_n 1, 1), (22, .invokevirtual 96, 3), (25, .aload_n 0, 1), (26, .getfield 27, 3), (29, .iconst 1, 1), (30, .iload_n 1, 1), (31, .invokevirtual 99, 3), (34, .iconst 0, 1), (35, .istore_n 2, 1), (36, .aload_n 0, 1), (37, .getfield 9, 3), (40, .invokevirtual 103, 3), (43, .istore_n 3, 1), (44, .iconst 0, 1), (45, .istore 4, 2), (47, .iload 4, 2), (49, .ldc 39, 2), (51, .if_icmp .ge 41, 3), (54, .iload_n 3, 1), (55, .ifCond .eq 37, 3), (58, .aload_n 0, 1), (59, .getfield 9, 3), (62, .invokevirtual 46, 3), (65, .invokestatic 106, 3), (68, .ifCond .eq 24, 3), (71, .aload_n 0, 1), (72, .iload_n 1, 1), (73, .iload_n 2, 1), (74, .invokevirtual 110, 3), (77, .istore_n 2, 1), (78, .aload_n 0, 1), (79, .getfield 9, 3), (82, .invokevirtual 103, 3), (85, .istore_n 3, 1), (86, .iinc 4 1, 3), (89, .goto (-42), 3), (92, .aload_n 0, 1), (93, .getfield 9, 3), (96, .ldc 114, 2), (98, .invokevirtual 67, 3), (101, .istore 4, 2), (103, .aload_n 0, 1), (104, .getfield 9, 3), (107, .bipush 62, 2), (109, .invokevirtual 90, 3), (112, .aload_n 0, 1), (113, .iload_n 1, 1), (114, .iload_n 2, 1), (115, .invokevirtual 116, 3), (118, .iload 4, 2), (120, .ifCond .eq 8, 3), (123, .aload_n 0, 1), (124, .iload_n 1, 1), (125, .invokevirtual 119, 3), (128, .return_, 1)]
def am_m88 : aM := (yX8_readTag, cX8_readTag, 5, none, 8, [], 0, am_i88)
theorem am_k88 : am_okM am_m88 := ⟨by decide +kernel, am_inP 883 (by decide +kernel) rfl, am_inP 10 (by decide +kernel) rfl, rfl, by decide, by decide +kernel, by decide +kernel⟩
set_option maxRecDepth 100000 in
theorem am_d88 : am_okI am_m88 := by unfold am_okI; decide +kernel
def am_i89 : List (Nat × Instr × Nat) := [(0, .aload_n 0, 1), (1, .getfield 9, 3), (4, .invokevirtual 93, 3), (7, .istore_n 3, 1), (8, .iconst 1, 1), (9, .iload_n 3, 1), (10, .bipush 97, 2), (12, .isub, 1), (13, .ishl, 1), (14, .istore 4, 2), (16, .iload_n 2, 1), (17, .iload 4, 2), (19, .iand, 1), (20, .ifCond .eq 11, 3), (23, .new 81, 3), (26, .dup, 1), (27, .invokespecial 83, 3), (30, .athrow, 1), (31, .aload_n 0, 1), (32, .getfield 9, 3), (35, .invokevirtual 103, 3), (38, .pop, 1), (39, .aload_n 0, 1), (40, .getfield 9, 3), (43, .bipush 61, 2), (45, .invokevirtual 90, 3), (48, .aload_n 0, 1), (49, .getfield 9, 3), (52, .invokevirtual 103, 3), (55, .pop, 1), (56, .aload_n 0, 1), (57, .getfield 23, 3), (60, .iload_n 1, 1), (61, .iload_n 3, 1), (62, .invokevirtual 122, 3), (65, .istore 5, 2), (67, .aload_n 0, 1), (68, .getfield 19, 3), (71, .iload 5, 2), (73, .iconst (-1), 1), (74, .if_icmp .eq 20, 3), (77, .aload_n 0, 1), (78, .getfield 23, 3), (81, .getfield 127, 3), (84, .iload 5, 2), (86, .iaload, 1), (87, .ifCond .eq 7, 3), (90, .iconst 1, 1), (91, .goto 4, 3), (94, .iconst 0, 1), (95, .invokevirtual 131, 3), (98, .aload_n 0, 1), (99, .getfield 27, 3), (102, .iload_n 3, 1), (103, .iload 5, 2), (105, .aload_n 0, 1), (106, .getfield 19, 3), (109, .getfield 137, 3), (112, .iconst 0, 1), (113, .aload_n 0, 1), (114, .getfield 19, 3), (117, .getfield 140, 3), (120, .invokevirtual 143, 3), (123, .iload_n 2, 1), (124, .iload 4, 2), (126, .ior, 1), (127, .ireturn, 1)]
def am_m89 : aM := (yX8_readAttribute, cX8_readAttribute, 6, some .int, 8, [], 2, am_i89)
theorem am_k89 : am_okM am_m89 := ⟨by decide +kernel, am_inP 903 (by decide +kernel) rfl, am_inP 10 (by decide +kernel) rfl, rfl, by decide, by decide +kernel, by decide +kernel⟩
set_option maxRecDepth 100000 in
theorem am_d89 : am_okI am_m89 := by unfold am_okI; decide +kernel
def am_i90 : List (Nat × Instr × Nat) := [(0, .iconst 0, 1), (1, .istore_n 3, 1), (2, .iload_n 3, 1), (3, .aload_n 0, 1), (4, .getfield 23, 3), (7, .getfield 147, 3), (10, .if_icmp .ge 103, 3), (13, .aload_n 0, 1), (14, .getfield 23, 3), (17, .getfield 150, 3), (20, .iload_n 3, 1), (21, .iaload, 1), (22, .istore 4, 2), (24, .iload_n 2, 1), (25, .iload 4, 2), (27, .bipush 97, 2), (29, .isub, 1), (30, .ishr, 1), (31, .iconst 1, 1), (32, .iand, 1), (33, .ifCond .ne 7, 3), (36, .iconst 1, 1), (37, .goto 4, 3), (40, .iconst 0, 1), (41, .istore 5, 2), (43, .aload_n 0, 1), (44, .getfield 23, 3), (47, .getfield 153, 3), (50, .iload_n 3, 1), (51, .iaload, 1), (52, .iload_n 1, 1), (53, .if_icmp .ne 54, 3), (56, .iload 5, 2), (58, .ifCond .eq 49, 3), (61, .aload_n 0, 1), (62, .getfield 23, 3), (65, .iload_n 3, 1), (66, .invokevirtual 156, 3), (69, .ifCond .eq 38, 3), (72, .aload_n 0, 1), (73, .getfield 27, 3), (76, .iload 4, 2), (78, .iload_n 3, 1), (79, .aload_n 0, 1), (80, .getfield 23, 3), (83, .getfield 159, 3), (86, .aload_n 0, 1), (87, .getfield 23, 3), (90, .getfield 162, 3), (93, .iload_n 3, 1), (94, .iaload, 1), (95, .aload_n 0, 1), (96, .getfield 23, 3), (99, .getfield 165, 3), (102, .iload_n 3, 1), (103, .iaload, 1), (104, .invokevirtual 143, 3), (107, .iinc 3 1, 3), (110, .goto (-108), 3), (113, .return_, 1)]
def am_m90 : aM := (yX8_addDefaults, cX8_addDefaults, 6, none, 8, [], 2, am_i90)
theorem am_k90 : am_okM am_m90 := ⟨by decide +kernel, am_inP 919 (by decide +kernel) rfl, am_inP 10 (by decide +kernel) rfl, rfl, by decide, by decide +kernel, by decide +kernel⟩
set_option maxRecDepth 100000 in
theorem am_d90 : am_okI am_m90 := by unfold am_okI; decide +kernel
def am_i91 : List (Nat × Instr × Nat) := [(0, .aload_n 0, 1), (1, .getfield 9, 3), (4, .invokevirtual 93, 3), (7, .istore_n 1, 1), (8, .aload_n 0, 1), (9, .getfield 9, 3), (12, .invokevirtual 103, 3), (15, .pop, 1), (16, .aload_n 0, 1), (17, .getfield 9, 3), (20, .bipush 62, 2), (22, .invokevirtual 90, 3), (25, .aload_n 0, 1), (26, .iload_n 1, 1), (27, .invokevirtual 119, 3), (30, .return_, 1)]
def am_m91 : aM := (yX8_readEndTag, cX8_readEndTag, 2, none, 8, [], 0, am_i91)
theorem am_k91 : am_okM am_m91 := ⟨by decide +kernel, am_inP 948 (by decide +kernel) rfl, am_inP 10 (by decide +kernel) rfl, rfl, by decide, by decide +kernel, by decide +kernel⟩
set_option maxRecDepth 100000 in
theorem am_d91 : am_okI am_m91 := by unfold am_okI; decide +kernel
def am_i92 : List (Nat × Instr × Nat) := [(0, .aload_n 0, 1), (1, .getfield 15, 3), (4, .iload_n 1, 1), (5, .invokevirtual 168, 3), (8, .aload_n 0, 1), (9, .getfield 27, 3), (12, .iconst 4, 1), (13, .iload_n 1, 1), (14, .invokevirtual 99, 3), (17, .return_, 1)]
def am_m92 : aM := (yX8_endElement, cX8_endElement, 2, none, 8, [], 1, am_i92)
theorem am_k92 : am_okM am_m92 := ⟨by decide +kernel, am_inP 927 (by decide +kernel) rfl, am_inP 10 (by decide +kernel) rfl, rfl, by decide, by decide +kernel, by decide +kernel⟩
set_option maxRecDepth 100000 in
theorem am_d92 : am_okI am_m92 := by unfold am_okI; decide +kernel
end
section
def am_i93 : List (Nat × Instr × Nat) := [(0, .aload_n 0, 1), (1, .invokespecial 3, 3), (4, .aload_n 0, 1), (5, .sipush 2360, 3), (8, .newarray .int, 2), (10, .putfield 9, 3), (13, .aload_n 0, 1), (14, .aload_n 1, 1), (15, .putfield 15, 3), (18, .aload_n 0, 1), (19, .aload_n 2, 1), (20, .putfield 19, 3), (23, .return_, 1)]
def am_m93 : aM := (yX9_init, cX9_init, 3, none, 9, [], 2, am_i93)
theorem am_k93 : am_okM am_m93 := ⟨by decide +kernel, am_inP 100 (by decide +kernel) rfl, am_inP 4 (by decide +kernel) rfl, rfl, by decide, by decide +kernel, by decide +kernel⟩
set_option maxRecDepth 100000 in
theorem am_d93 : am_okI am_m93 := by unfold am_okI; decide +kernel
def am_i94 : List (Nat × Instr × Nat) := [(0, .aload_n 0, 1), (1, .iconst 0, 1), (2, .putfield 23, 3), (5, .aload_n 0, 1), (6, .getfield 15, 3), (9, .bipush 34, 2), (11, .invokevirtual 27, 3), (14, .aload_n 0, 1), (15, .getfield 19, 3), (18, .getfield 33, 3), (21, .istore_n 2, 1), (22, .iconst 0, 1), (23, .istore_n 3, 1), (24, .iload_n 3, 1), (25, .ldc 38, 2), (27, .if_icmp .ge 140, 3), (30, .aload_n 0, 1), (31, .getfield 19, 3), (34, .getfield 33, 3), (37, .iload_n 2, 1), (38, .if_icmp .gt 15, 3), (41, .aload_n 0, 1), (42, .getfield 15, 3), (45, .invokevirtual 39, 3), (48, .bipush 34, 2), (50, .if_icmp .eq 117, 3), (53, .aload_n 0, 1), (54, .getfield 15, 3), (57, .invokevirtual 39, 3), (60, .istore 4, 2), (62, .iload 4, 2), (64, .iconst (-1), 1), (65, .if_icmp .ne 13, 3), (68, .aload_n 0, 1), (69, .getfield 19, 3), (72, .invokevirtual 43, 3), (75, .goto 86, 3), (78, .iload 4, 2), (80, .bipush 60, 2), (82, .if_icmp .ne 11, 3), (85, .new 46, 3), (88, .dup, 1), (89, .invokespecial 48, 3), (92, .athrow, 1), (93, .iload 4, 2), (95, .bipush 38, 2), (97, .if_icmp .eq 33, 3), (100, .aload_n 0, 1), (101, .getfield 15, 3), (104, .invokevirtual 49, 3), (107, .pop, 1), (108, .aload_n 0, 1), (109, .iload 4, 2), (111, .invokestatic 52, 3), (114, .ifCond .eq 8, 3), (117, .bipush 32, 2), (119, .goto 5, 3), (122, .iload 4, 2), (124, .invokevirtual 56, 3), (127, .goto 34, 3), (130, .aload_n 0, 1), (131, .getfield 15, 3), (134, .invokevirtual 59, 3), (137, .istore 5, 2), (139, .iload 5, 2), (141, .iconst (-1), 1), (142, .if_icmp .ne 13, 3), (145, .aload_n 0, 1), (146, .getfield 19, 3), (149, .invokevirtual 62, 3), (152, .goto 9, 3), (155, .aload_n 0, 1), (156, .iload 5, 2), (158, .invokevirtual 56, 3), (161, .iinc 3 1, 3), (164, .goto (-140), 3), (167, .aload_n 0, 1), (168, .getfield 15, 3), (171, .bipush 34, 2), (173, .invokevirtual 27, 3), (176, .iload_n 1, 1), (177, .ifCond .eq 7, 3), (180, .aload_n 0, 1), (181, .invokevirtual 65, 3), (184, .return_, 1)]
def am_m94 : aM := (yX9_read, cX9_read, 6, none, 9, [], 1, am_i94)
theorem am_k94 : am_okM am_m94 := ⟨by decide +kernel, am_inP 795 (by decide +kernel) rfl, am_inP 4 (by decide +kernel) rfl, rfl, by decide, by decide +kernel, by decide +kernel⟩
set_option maxRecDepth 100000 in
theorem am_d94 : am_okI am_m94 := by unfold am_okI; decide +kernel
def am_i95 : List (Nat × Instr × Nat) := [(0, .aload_n 0, 1), (1, .getfield 23, 3), (4, .aload_n 0, 1), (5, .getfield 9, 3), (8, .arraylength, 1), (9, .if_icmp .lt 11, 3), (12, .new 68, 3), (15, .dup, 1), (16, .invokespecial 70, 3), (19, .athrow, 1), (20, .aload_n 0, 1), (21, .getfield 9, 3), (24, .aload_n 0, 1), (25, .getfield 23, 3), (28, .iload_n 1, 1), (29, .iastore, 1), (30, .aload_n 0, 1), (31, .dup, 1), (32, .getfield 23, 3), (35, .iconst 1, 1), (36, .iadd, 1), (37, .putfield 23, 3), (40, .return_, 1)]
def am_m95 : aM := (yX9_add, cX9_add, 2, none, 9, [], 1, am_i95)
theorem am_k95 : am_okM am_m95 := ⟨by decide +kernel, am_inP 812 (by decide +kernel) rfl, am_inP 4 (by decide +kernel) rfl, rfl, by decide, by decide +kernel, by decide +kernel⟩
set_option maxRecDepth 100000 in
theorem am_d95 : am_okI am_m95 := by unfold am_okI; decide +kernel
def am_i96 : List (Nat × Instr × Nat) := [(0, .iconst 0, 1), (1, .istore_n 1, 1), (2, .iconst 0, 1), (3, .istore_n 2, 1), (4, .iload_n 2, 1), (5, .aload_n 0, 1), (6, .getfield 23, 3), (9, .if_icmp .ge 52, 3), (12, .aload_n 0, 1), (13, .getfield 9, 3), (16, .iload_n 2, 1), (17, .iaload, 1), (18, .bipush 32, 2), (20, .if_icmp .ne 20, 3), (23, .iload_n 1, 1), (24, .ifCond .le 31, 3), (27, .aload_n 0, 1), (28, .getfield 9, 3), (31, .iload_n 1, 1), (32, .iconst 1, 1), (33, .isub, 1), (34, .iaload, 1), (35, .bipush 32, 2), (37, .if_icmp .eq 18, 3), (40, .aload_n 0, 1), (41, .getfield 9, 3), (44, .iload_n 1, 1), (45, .aload_n 0, 1), (46, .getfield 9, 3), (49, .iload_n 2, 1), (50, .iaload, 1), (51, .iastore, 1), (52, .iinc 1 1, 3), (55, .iinc 2 1, 3), (58, .goto (-54), 3), (61, .iload_n 1, 1), (62, .ifCond .le 19, 3), (65, .aload_n 0, 1), (66, .getfield 9, 3), (69, .iload_n 1, 1), (70, .iconst 1, 1), (71, .isub, 1), (72, .iaload, 1), (73, .bipush 32, 2), (75, .if_icmp .ne 6, 3), (78, .iinc 1 (-1), 3), (81, .aload_n 0, 1), (82, .iload_n 1, 1), (83, .putfield 23, 3), (86, .return_, 1)]
def am_m96 : aM := (yX9_collapse, cX9_collapse, 3, none, 9, [], 0, am_i96)
theorem am_k96 : am_okM am_m96 := ⟨by decide +kernel, am_inP 849 (by decide +kernel) rfl, am_inP 4 (by decide +kernel) rfl, rfl, by decide, by decide +kernel, by decide +kernel⟩
set_option maxRecDepth 100000 in
theorem am_d96 : am_okI am_m96 := by unfold am_okI; decide +kernel
def am_i97 : List (Nat × Instr × Nat) := [(0, .aload_n 0, 1), (1, .invokespecial 3, 3), (4, .aload_n 0, 1), (5, .sipush 360, 3), (8, .newarray .int, 2), (10, .putfield 9, 3), (13, .aload_n 0, 1), (14, .new 13, 3), (17, .dup, 1), (18, .invokespecial 15, 3), (21, .putfield 16, 3), (24, .aload_n 0, 1), (25, .new 20, 3), (28, .dup, 1), (29, .aload_n 0, 1), (30, .getfield 16, 3), (33, .invokespecial 22, 3), (36, .putfield 25, 3), (39, .new 29, 3), (42, .dup, 1), (43, .aload_n 0, 1), (44, .getfield 16, 3), (47, .aload_n 0, 1), (48, .getfield 25, 3), (51, .invokespecial 31, 3), (54, .astore_n 1, 1), (55, .aload_n 0, 1), (56, .new 34, 3), (59, .dup, 1), (60, .aload_n 0, 1), (61, .getfield 16, 3), (64, .aload_n 0, 1), (65, .getfield 25, 3), (68, .aload_n 1, 1), (69, .invokespecial 36, 3), (72, .putfield 39, 3), (75, .aload_n 0, 1), (76, .new 43, 3), (79, .dup, 1), (80, .invokespecial 45, 3), (83, .putfield 46, 3), (86, .aload_n 0, 1), (87, .new 50, 3), (90, .dup, 1), (91, .aload_n 0, 1), (92, .getfield 16, 3), (95, .aload_n 0, 1), (96, .getfield 25, 3), (99, .aload_n 1, 1), (100, .aload_n 0, 1), (101, .getfield 39, 3), (104, .getfield 52, 3), (107, .aload_n 0, 1), (108, .getfield 46, 3), (111, .invokespecial 56, 3), (114, .putfield 59, 3), (117, .aload_n 0, 1), (118, .new 63, 3), (121, .dup, 1), (122, .aload_n 0, 1), (123, .getfield 16, 3), (126, .aload_n 0, 1), (127, .getfield 39, 3), (130, .aload_n 0, 1), (131, .getfield 46, 3), (134, .invokespecial 65, 3), (137, .putfield 68, 3), (140, .return_, 1)]
def am_m97 : aM := (yX10_init, cX10_init, 2, none, 10, [], 0, am_i97)
theorem am_k97 : am_okM am_m97 := ⟨by decide +kernel, am_inP 29 (by decide +kernel) rfl, am_inP 1 (by decide +kernel) rfl, rfl, by decide, by decide +kernel, by decide +kernel⟩
set_option maxRecDepth 100000 in
theorem am_d97 : am_okI am_m97 := by unfold am_okI; decide +kernel
def am_i98 : List (Nat × Instr × Nat) := [(0, .iload_n 3, 1), (1, .iconst 1, 1), (2, .if_icmp .lt 9, 3), (5, .iload_n 3, 1), (6, .bipush 8, 2), (8, .if_icmp .le 11, 3), (11, .new 72, 3), (14, .dup, 1), (15, .invokespecial 74, 3), (18, .athrow, 1), (19, .aload_n 0, 1), (20, .getfield 75, 3), (23, .iload_n 3, 1), (24, .iadd, 1), (25, .sipush 360, 3), (28, .if_icmp .le 11, 3), (31, .new 79, 3), (34, .dup, 1), (35, .invokespecial 81, 3), (38, .athrow, 1), (39, .iconst 0, 1), (40, .istore 4, 2), (42, .iload 4, 2), (44, .iload_n 3, 1), (45, .if_icmp .ge 33, 3), (48, .aload_n 0, 1), (49, .getfield 9, 3), (52, .aload_n 0, 1), (53, .getfield 75, 3), (56, .iload 4, 2), (58, .iadd, 1), (59, .lload_n 1, 1), (60, .bipush 8, 2), (62, .iload 4, 2), (64, .imul, 1), (65, .lshr, 1), (66, .l2i, 1), (67, .sipush 255, 3), (70, .iand, 1), (71, .iastore, 1), (72, .iinc 4 1, 3), (75, .goto (-33), 3), (78, .aload_n 0, 1), (79, .dup, 1), (80, .getfield 75, 3), (83, .iload_n 3, 1), (84, .iadd, 1), (85, .putfield 75, 3), (88, .aload_n 0, 1), (89, .getfield 75, 3), (92, .ireturn, 1)]
def am_m98 : aM := (yX10_bytes, cX10_bytes, 5, some .int, 10, [], 2, am_i98)
theorem am_k98 : am_okM am_m98 := ⟨by decide +kernel, am_inP 422 (by decide +kernel) rfl, am_inP 1 (by decide +kernel) rfl, rfl, by decide, by decide +kernel, by decide +kernel⟩
set_option maxRecDepth 100000 in
theorem am_d98 : am_okI am_m98 := by unfold am_okI; decide +kernel
def am_i99 : List (Nat × Instr × Nat) := [(0, .aload_n 0, 1), (1, .getfield 75, 3), (4, .istore_n 1, 1), (5, .aload_n 0, 1), (6, .iconst 0, 1), (7, .putfield 75, 3), (10, .iload_n 1, 1), (11, .ireturn, 1)]
def am_m99 : aM := (yX10_clear, cX10_clear, 2, some .int, 10, [], 0, am_i99)
theorem am_k99 : am_okM am_m99 := ⟨by decide +kernel, am_inP 401 (by decide +kernel) rfl, am_inP 1 (by decide +kernel) rfl, rfl, by decide, by decide +kernel, by decide +kernel⟩
set_option maxRecDepth 100000 in
theorem am_d99 : am_okI am_m99 := by unfold am_okI; decide +kernel
def am_i100 : List (Nat × Instr × Nat) := [(0, .aload_n 0, 1), (1, .iconst 0, 1), (2, .putfield 82, 3), (5, .aload_n 0, 1), (6, .getfield 25, 3), (9, .iload_n 1, 1), (10, .invokevirtual 85, 3), (13, .iload_n 1, 1), (14, .ifCond .lt 10, 3), (17, .iload_n 1, 1), (18, .sipush 2000, 3), (21, .if_icmp .le 11, 3), (24, .new 72, 3), (27, .dup, 1), (28, .invokespecial 74, 3), (31, .athrow, 1), (32, .aload_n 0, 1), (33, .dup, 1), (34, .getfield 89, 3), (37, .iconst 1, 1), (38, .iadd, 1), (39, .putfield 89, 3), (42, .aload_n 0, 1), (43, .getfield 16, 3), (46, .aload_n 0, 1), (47, .getfield 9, 3), (50, .aload_n 0, 1), (51, .getfield 75, 3), (54, .invokevirtual 92, 3), (57, .aload_n 0, 1), (58, .getfield 39, 3), (61, .invokevirtual 96, 3), (64, .aload_n 0, 1), (65, .getfield 59, 3), (68, .invokevirtual 99, 3), (71, .aload_n 0, 1), (72, .getfield 68, 3), (75, .invokevirtual 100, 3), (78, .istore_n 2, 1), (79, .aload_n 0, 1), (80, .dup, 1), (81, .getfield 89, 3), (84, .iconst 1, 1), (85, .isub, 1), (86, .putfield 89, 3), (89, .aload_n 0, 1), (90, .aload_n 0, 1), (91, .getfield 46, 3), (94, .getfield 104, 3), (97, .putfield 82, 3), (100, .iload_n 2, 1), (101, .ifCond .ne 16, 3), (104, .aload_n 0, 1), (105, .dup, 1), (106, .getfield 105, 3), (109, .iconst 1, 1), (110, .iadd, 1), (111, .putfield 105, 3), (114, .goto 13, 3), (117, .aload_n 0, 1), (118, .dup, 1), (119, .getfield 108, 3), (122, .iconst 1, 1), (123, .iadd, 1), (124, .putfield 108, 3), (127, .iload_n 2, 1), (128, .ireturn, 1)]
def am_m100 : aM := (yX10_judge, cX10_judge, 3, some .int, 10, [], 1, am_i100)
theorem am_k100 : am_okM am_m100 := ⟨by decide +kernel, am_inP 509 (by decide +kernel) rfl, am_inP 1 (by decide +kernel) rfl, rfl, by decide, by decide +kernel, by decide +kernel⟩
set_option maxRecDepth 100000 in
theorem am_d100 : am_okI am_m100 := by unfold am_okI; decide +kernel
def am_i101 : List (Nat × Instr × Nat) := [(0, .aload_n 0, 1), (1, .getfield 82, 3), (4, .ireturn, 1)]
def am_m101 : aM := (yX10_events, cX10_events, 1, some .int, 10, [], 0, am_i101)
theorem am_k101 : am_okM am_m101 := ⟨by decide +kernel, am_inP 405 (by decide +kernel) rfl, am_inP 1 (by decide +kernel) rfl, rfl, by decide, by decide +kernel, by decide +kernel⟩
set_option maxRecDepth 100000 in
theorem am_d101 : am_okI am_m101 := by unfold am_okI; decide +kernel
def am_i102 : List (Nat × Instr × Nat) := [(0, .iload_n 1, 1), (1, .ifCond .lt 20, 3), (4, .iload_n 1, 1), (5, .aload_n 0, 1), (6, .getfield 82, 3), (9, .if_icmp .ge 12, 3), (12, .iload_n 2, 1), (13, .ifCond .lt 8, 3), (16, .iload_n 2, 1), (17, .iconst 2, 1), (18, .if_icmp .le 11, 3), (21, .new 111, 3), (24, .dup, 1), (25, .invokespecial 113, 3), (28, .athrow, 1), (29, .iload_n 2, 1), (30, .ifCond .ne 13, 3), (33, .aload_n 0, 1), (34, .getfield 46, 3), (37, .getfield 114, 3), (40, .iload_n 1, 1), (41, .iaload, 1), (42, .ireturn, 1), (43, .iload_n 2, 1), (44, .iconst 1, 1), (45, .if_icmp .ne 15, 3), (48, .aload_n 0, 1), (49, .getfield 46, 3), (52, .getfield 117, 3), (55, .iload_n 1, 1), (56, .iaload, 1), (57, .goto 12, 3), (60, .aload_n 0, 1), (61, .getfield 46, 3), (64, .getfield 120, 3), (67, .iload_n 1, 1), (68, .iaload, 1), (69, .ireturn, 1)]
def am_m102 : aM := (yX10_event, cX10_event, 3, some .int, 10, [], 2, am_i102)
theorem am_k102 : am_okM am_m102 := ⟨by decide +kernel, am_inP 1050 (by decide +kernel) rfl, am_inP 1 (by decide +kernel) rfl, rfl, by decide, by decide +kernel, by decide +kernel⟩
set_option maxRecDepth 100000 in
theorem am_d102 : am_okI am_m102 := by unfold am_okI; decide +kernel
def am_i103 : List (Nat × Instr × Nat) := [(0, .iload_n 1, 1), (1, .ifCond .lt 28, 3), (4, .iload_n 1, 1), (5, .aload_n 0, 1), (6, .getfield 82, 3), (9, .if_icmp .ge 20, 3), (12, .iload_n 2, 1), (13, .ifCond .lt 16, 3), (16, .iload_n 2, 1), (17, .aload_n 0, 1), (18, .getfield 46, 3), (21, .getfield 120, 3), (24, .iload_n 1, 1), (25, .iaload, 1), (26, .if_icmp .lt 11, 3), (29, .new 111, 3), (32, .dup, 1), (33, .invokespecial 113, 3), (36, .athrow, 1), (37, .aload_n 0, 1), (38, .getfield 46, 3), (41, .getfield 123, 3), (44, .aload_n 0, 1), (45, .getfield 46, 3), (48, .getfield 126, 3), (51, .iload_n 1, 1), (52, .iaload, 1), (53, .iload_n 2, 1), (54, .iadd, 1), (55, .iaload, 1), (56, .ireturn, 1)]
def am_m103 : aM := (yX10_character, cX10_character, 3, some .int, 10, [], 2, am_i103)
theorem am_k103 : am_okM am_m103 := ⟨by decide +kernel, am_inP 1072 (by decide +kernel) rfl, am_inP 1 (by decide +kernel) rfl, rfl, by decide, by decide +kernel, by decide +kernel⟩
set_option maxRecDepth 100000 in
theorem am_d103 : am_okI am_m103 := by unfold am_okI; decide +kernel
def am_i104 : List (Nat × Instr × Nat) := [(0, .aload_n 0, 1), (1, .getfield 25, 3), (4, .getfield 129, 3), (7, .ireturn, 1)]
def am_m104 : aM := (yX10_cost, cX10_cost, 1, some .int, 10, [], 0, am_i104)
theorem am_k104 : am_okM am_m104 := ⟨by decide +kernel, am_inP 409 (by decide +kernel) rfl, am_inP 1 (by decide +kernel) rfl, rfl, by decide, by decide +kernel, by decide +kernel⟩
set_option maxRecDepth 100000 in
theorem am_d104 : am_okI am_m104 := by unfold am_okI; decide +kernel
def am_i105 : List (Nat × Instr × Nat) := [(0, .iload_n 1, 1), (1, .tableswitch 42 0 2 #[27, 32, 37], 27), (28, .aload_n 0, 1), (29, .getfield 105, 3), (32, .ireturn, 1), (33, .aload_n 0, 1), (34, .getfield 108, 3), (37, .ireturn, 1), (38, .aload_n 0, 1), (39, .getfield 89, 3), (42, .ireturn, 1), (43, .iconst (-1), 1), (44, .ireturn, 1)]
def am_m105 : aM := (yX10_count, cX10_count, 2, some .int, 10, [], 1, am_i105)
theorem am_k105 : am_okM am_m105 := ⟨by decide +kernel, am_inP 413 (by decide +kernel) rfl, am_inP 1 (by decide +kernel) rfl, rfl, by decide, by decide +kernel, by decide +kernel⟩
set_option maxRecDepth 100000 in
theorem am_d105 : am_okI am_m105 := by unfold am_okI; decide +kernel
def am_i106 : List (Nat × Instr × Nat) := [(0, .iload_n 0, 1), (1, .bipush 9, 2), (3, .if_icmp .eq 39, 3), (6, .iload_n 0, 1), (7, .bipush 10, 2), (9, .if_icmp .eq 33, 3), (12, .iload_n 0, 1), (13, .bipush 13, 2), (15, .if_icmp .eq 27, 3), (18, .iload_n 0, 1), (19, .bipush 32, 2), (21, .if_icmp .lt 9, 3), (24, .iload_n 0, 1), (25, .ldc 132, 2), (27, .if_icmp .le 15, 3), (30, .iload_n 0, 1), (31, .ldc 133, 2), (33, .if_icmp .lt 13, 3), (36, .iload_n 0, 1), (37, .ldc 134, 2), (39, .if_icmp .gt 7, 3), (42, .iconst 1, 1), (43, .goto 4, 3), (46, .iconst 0, 1), (47, .ireturn, 1)]
def am_m106 : aM := (yX10_isCharacter, cX10_isCharacter, 1, some .boolean, 10, [], 1, am_i106)
theorem am_k106 : am_okM am_m106 := ⟨by decide +kernel, am_inP 528 (by decide +kernel) rfl, am_inP 1 (by decide +kernel) rfl, rfl, by decide, by decide +kernel, by decide +kernel⟩
set_option maxRecDepth 100000 in
theorem am_d106 : am_okI am_m106 := by unfold am_okI; decide +kernel
def am_i107 : List (Nat × Instr × Nat) := [(0, .iload_n 0, 1), (1, .bipush 32, 2), (3, .if_icmp .eq 21, 3), (6, .iload_n 0, 1), (7, .bipush 9, 2), (9, .if_icmp .eq 15, 3), (12, .iload_n 0, 1), (13, .bipush 10, 2), (15, .if_icmp .eq 9, 3), (18, .iload_n 0, 1), (19, .bipush 13, 2), (21, .if_icmp .ne 7, 3), (24, .iconst 1, 1), (25, .goto 4, 3), (28, .iconst 0, 1), (29, .ireturn, 1)]
def am_m107 : aM := (yX10_isBlank, cX10_isBlank, 1, some .boolean, 10, [], 1, am_i107)
theorem am_k107 : am_okM am_m107 := ⟨by decide +kernel, am_inP 565 (by decide +kernel) rfl, am_inP 1 (by decide +kernel) rfl, rfl, by decide, by decide +kernel, by decide +kernel⟩
set_option maxRecDepth 100000 in
theorem am_d107 : am_okI am_m107 := by unfold am_okI; decide +kernel
def am_i108 : List (Nat × Instr × Nat) := [(0, .iload_n 0, 1), (1, .bipush 97, 2), (3, .if_icmp .lt 13, 3), (6, .iload_n 0, 1), (7, .bipush 122, 2), (9, .if_icmp .gt 7, 3), (12, .iconst 1, 1), (13, .goto 4, 3), (16, .iconst 0, 1), (17, .ireturn, 1)]
def am_m108 : aM := (yX10_isName, cX10_isName, 1, some .boolean, 10, [], 1, am_i108)
theorem am_k108 : am_okM am_m108 := ⟨by decide +kernel, am_inP 650 (by decide +kernel) rfl, am_inP 1 (by decide +kernel) rfl, rfl, by decide, by decide +kernel, by decide +kernel⟩
set_option maxRecDepth 100000 in
theorem am_d108 : am_okI am_m108 := by unfold am_okI; decide +kernel
def am_i109 : List (Nat × Instr × Nat) := [(0, .iload_n 0, 1), (1, .bipush 48, 2), (3, .if_icmp .lt 13, 3), (6, .iload_n 0, 1), (7, .bipush 57, 2), (9, .if_icmp .gt 7, 3), (12, .iconst 1, 1), (13, .goto 4, 3), (16, .iconst 0, 1), (17, .ireturn, 1)]
def am_m109 : aM := (yX10_isDigit, cX10_isDigit, 1, some .boolean, 10, [], 1, am_i109)
theorem am_k109 : am_okM am_m109 := ⟨by decide +kernel, am_inP 826 (by decide +kernel) rfl, am_inP 1 (by decide +kernel) rfl, rfl, by decide, by decide +kernel, by decide +kernel⟩
set_option maxRecDepth 100000 in
theorem am_d109 : am_okI am_m109 := by unfold am_okI; decide +kernel
def am_i110 : List (Nat × Instr × Nat) := [(0, .iload_n 0, 1), (1, .bipush 97, 2), (3, .if_icmp .lt 9, 3), (6, .iload_n 0, 1), (7, .bipush 122, 2), (9, .if_icmp .le 15, 3), (12, .iload_n 0, 1), (13, .bipush 48, 2), (15, .if_icmp .lt 13, 3), (18, .iload_n 0, 1), (19, .bipush 57, 2), (21, .if_icmp .gt 7, 3), (24, .iconst 1, 1), (25, .goto 4, 3), (28, .iconst 0, 1), (29, .ireturn, 1)]
def am_m110 : aM := (yX10_isInToken, cX10_isInToken, 1, some .boolean, 10, [], 1, am_i110)
theorem am_k110 : am_okM am_m110 := ⟨by decide +kernel, am_inP 769 (by decide +kernel) rfl, am_inP 1 (by decide +kernel) rfl, rfl, by decide, by decide +kernel, by decide +kernel⟩
set_option maxRecDepth 100000 in
theorem am_d110 : am_okI am_m110 := by unfold am_okI; decide +kernel
def am_i111 : List (Nat × Instr × Nat) := [(0, .aload_n 0, 1), (1, .invokespecial 1, 3), (4, .aload_n 0, 1), (5, .iconst 3, 1), (6, .newarray .int, 2), (8, .putfield 7, 3), (11, .aload_n 0, 1), (12, .sipush 360, 3), (15, .newarray .int, 2), (17, .putfield 13, 3), (20, .aload_n 0, 1), (21, .sipush 1200, 3), (24, .newarray .int, 2), (26, .putfield 16, 3), (29, .aload_n 0, 1), (30, .bipush 26, 2), (32, .newarray .int, 2), (34, .putfield 19, 3), (37, .aload_n 0, 1), (38, .bipush 26, 2), (40, .newarray .int, 2), (42, .putfield 22, 3), (45, .aload_n 0, 1), (46, .bipush 26, 2), (48, .newarray .boolean, 2), (50, .putfield 25, 3), (53, .aload_n 0, 1), (54, .bipush 20, 2), (56, .newarray .int, 2), (58, .putfield 29, 3), (61, .aload_n 0, 1), (62, .bipush 20, 2), (64, .newarray .int, 2), (66, .putfield 32, 3), (69, .aload_n 0, 1), (70, .bipush 20, 2), (72, .newarray .int, 2), (74, .putfield 35, 3), (77, .aload_n 0, 1), (78, .bipush 20, 2), (80, .newarray .int, 2), (82, .putfield 38, 3), (85, .aload_n 0, 1), (86, .bipush 20, 2), (88, .newarray .int, 2), (90, .putfield 41, 3), (93, .aload_n 0, 1), (94, .bipush 20, 2), (96, .newarray .int, 2), (98, .putfield 44, 3), (101, .aload_n 0, 1), (102, .bipush 20, 2), (104, .newarray .int, 2), (106, .putfield 47, 3), (109, .aload_n 0, 1), (110, .bipush 20, 2), (112, .newarray .boolean, 2), (114, .putfield 50, 3), (117, .aload_n 0, 1), (118, .bipush 26, 2), (120, .newarray .int, 2), (122, .putfield 53, 3), (125, .aload_n 0, 1), (126, .bipush 26, 2), (128, .newarray .int, 2), (130, .putfield 56, 3), (133, .aload_n 0, 1), (134, .sipush 810, 3), (137, .newarray .int, 2), (139, .putfield 59, 3), (142, .aload_n 0, 1), (143, .sipush 810, 3), (146, .newarray .int, 2), (148, .putfield 62, 3), (151, .aload_n 0, 1), (152, .bipush 27, 2), (154, .newarray .int, 2), (156, .putfield 65, 3), (159, .aload_n 0, 1), (160, .bipush 27, 2), (162, .newarray .int, 2), (164, .putfield 68, 3), (167, .aload_n 0, 1), (168, .bipush 27, 2), (170, .newarray .int, 2), (172, .putfield 71, 3), (175, .aload_n 0, 1), (176, .bipush 27, 2), (178, .newarray .boolean, 2), (180, .putfield 74, 3), (183, .aload_n 0, 1), (184, .bipush 9, 2), (186, .newarray .int, 2), (188, .putfield 77, 3), (191, .aload_n 0, 1), (192, .bipush 9, 2), (194, .newarray .int, 2), (196, .putfield 80, 3), (199, .aload_n 0, 1), (200, .bipush 9, 2), (202, .newarray .int, 2), (204, .putfield 83, 3), (207, .aload_n 0, 1), (208, .bipush 9, 2), (210, .newarray .boolean, 2), (212, .putfield 86, 3), (215, .aload_n 0, 1), (216, .bipush 9, 2), (218, .newarray .boolean, 2), (220, .putfield 89, 3), (223, .aload_n 0, 1), (224, .bipush 64, 2), (226, .newarray .int, 2), (228, .putfield 92, 3), (231, .aload_n 0, 1), (232, .bipush 64, 2), (234, .newarray .int, 2), (236, .putfield 95, 3), (239, .aload_n 0, 1), (240, .bipush 64, 2), (242, .newarray .int, 2), (244, .putfield 98, 3), (247, .aload_n 0, 1), (248, .bipush 64, 2), (250, .newarray .int, 2), (252, .putfield 101, 3), (255, .aload_n 0, 1), (256, .bipush 64, 2), (258, .newarray .int, 2), (260, .putfield 104, 3), (263, .aload_n 0, 1), (264, .bipush 64, 2), (266, .newarray .int, 2), (268, .putfield 107, 3), (271, .aload_n 0, 1), (272, .bipush 64, 2), (274, .newarray .int, 2), (276, .putfield 110, 3), (279, .aload_n 0, 1), (280, .bipush 64, 2), (282, .newarray .int, 2), (284, .putfield 113, 3), (287, .aload_n 0, 1), (288, .sipush 200, 3), (291, .newarray .int, 2), (293, .putfield 116, 3), (296, .aload_n 0, 1), (297, .sipush 200, 3), (300, .newarray .int, 2), (302, .putfield 119, 3), (305, .aload_n 0, 1), (306, .sipush 3200, 3), (309, .newarray .int, 2), (311, .putfield 122, 3), (314, .aload_n 0, 1), (315, .sipush 2600, 3), (318, .newarray .int, 2), (320, .putfield 125, 3), (323, .aload_n 0, 1), (324, .sipush 200, 3), (327, .newarray .int, 2), (329, .putfield 128, 3), (332, .aload_n 0, 1), (333, .sipush 200, 3), (336, .newarray .int, 2), (338, .putfield 131, 3), (341, .aload_n 0, 1), (342, .sipush 200, 3), (345, .newarray .int, 2), (347, .putfield 134, 3), (350, .aload_n 0, 1), (351, .sipush 200, 3), (354, .newarray .int, 2), (356, .putfield 137, 3), (359, .aload_n 0, 1), (360, .sipush 200, 3), (363, .newarray .int, 2), (365, .putfield 140, 3), (368, .aload_n 0, 1), (369, .sipush 2000, 3), (372, .newarray .int, 2), (374, .putfield 143, 3), (377, .return_, 1)]
def am_m111 : aM := (yX11_init, cX11_init, 1, none, 11, [], 0, am_i111)
theorem am_k111 : am_okM am_m111 := ⟨by decide +kernel, am_inP 1077 (by decide +kernel) rfl, am_inP 12 (by decide +kernel) rfl, rfl, by decide, by decide +kernel, by decide +kernel⟩
set_option maxRecDepth 100000 in
theorem am_d111 : am_okI am_m111 := by unfold am_okI; decide +kernel
def am_i112 : List (Nat × Instr × Nat) := [(0, .aload_n 0, 1), (1, .getfield 146, 3), (4, .ireturn, 1)]
def am_m112 : aM := (yX11_thrown, cX11_thrown, 1, some .int, 11, [], 0, am_i112)
theorem am_k112 : am_okM am_m112 := ⟨by decide +kernel, am_inP 1279 (by decide +kernel) rfl, am_inP 12 (by decide +kernel) rfl, rfl, by decide, by decide +kernel, by decide +kernel⟩
set_option maxRecDepth 100000 in
theorem am_d112 : am_okI am_m112 := by unfold am_okI; decide +kernel
def am_i113 : List (Nat × Instr × Nat) := [(0, .aload_n 0, 1), (1, .iload_n 1, 1), (2, .putfield 146, 3), (5, .iconst 0, 1), (6, .ireturn, 1)]
def am_m113 : aM := (yX11_fail, cX11_fail, 2, some .int, 11, [], 1, am_i113)
theorem am_k113 : am_okM am_m113 := ⟨by decide +kernel, am_inP 1287 (by decide +kernel) rfl, am_inP 12 (by decide +kernel) rfl, rfl, by decide, by decide +kernel, by decide +kernel⟩
set_option maxRecDepth 100000 in
theorem am_d113 : am_okI am_m113 := by unfold am_okI; decide +kernel
def am_i114 : List (Nat × Instr × Nat) := [(0, .iload_n 0, 1), (1, .ifCond .lt 12, 3), (4, .iload_n 0, 1), (5, .iload_n 1, 1), (6, .if_icmp .ge 7, 3), (9, .iconst 1, 1), (10, .goto 4, 3), (13, .iconst 0, 1), (14, .ireturn, 1)]
def am_m114 : aM := (yX11_below, cX11_below, 2, some .boolean, 11, [], 2, am_i114)
theorem am_k114 : am_okM am_m114 := ⟨by decide +kernel, am_inP 1553 (by decide +kernel) rfl, am_inP 12 (by decide +kernel) rfl, rfl, by decide, by decide +kernel, by decide +kernel⟩
set_option maxRecDepth 100000 in
theorem am_d114 : am_okI am_m114 := by unfold am_okI; decide +kernel
def am_i115 : List (Nat × Instr × Nat) := [(0, .aload_n 0, 1), (1, .iconst 0, 1), (2, .putfield 146, 3), (5, .iload_n 3, 1), (6, .iconst 1, 1), (7, .if_icmp .lt 9, 3), (10, .iload_n 3, 1), (11, .bipush 8, 2), (13, .if_icmp .le 9, 3), (16, .aload_n 0, 1), (17, .iconst 1, 1), (18, .invokevirtual 150, 3), (21, .ireturn, 1), (22, .aload_n 0, 1), (23, .getfield 154, 3), (26, .iload_n 3, 1), (27, .iadd, 1), (28, .sipush 360, 3), (31, .if_icmp .le 9, 3), (34, .aload_n 0, 1), (35, .iconst 2, 1), (36, .invokevirtual 150, 3), (39, .ireturn, 1), (40, .iconst 0, 1), (41, .istore 4, 2), (43, .iload 4, 2), (45, .iload_n 3, 1), (46, .if_icmp .ge 33, 3), (49, .aload_n 0, 1), (50, .getfield 13, 3), (53, .aload_n 0, 1), (54, .getfield 154, 3), (57, .iload 4, 2), (59, .iadd, 1), (60, .lload_n 1, 1), (61, .bipush 8, 2), (63, .iload 4, 2), (65, .imul, 1), (66, .lshr, 1), (67, .ldc2_w 157, 3), (70, .land, 1), (71, .l2i, 1), (72, .iastore, 1), (73, .iinc 4 1, 3), (76, .goto (-33), 3), (79, .aload_n 0, 1), (80, .dup, 1), (81, .getfield 154, 3), (84, .iload_n 3, 1), (85, .iadd, 1), (86, .putfield 154, 3), (89, .aload_n 0, 1), (90, .getfield 154, 3), (93, .ireturn, 1)]
def am_m115 : aM := (yX11_bytes, cX11_bytes, 5, some .int, 11, [], 2, am_i115)
theorem am_k115 : am_okM am_m115 := ⟨by decide +kernel, am_inP 1283 (by decide +kernel) rfl, am_inP 12 (by decide +kernel) rfl, rfl, by decide, by decide +kernel, by decide +kernel⟩
set_option maxRecDepth 100000 in
theorem am_d115 : am_okI am_m115 := by unfold am_okI; decide +kernel
def am_i116 : List (Nat × Instr × Nat) := [(0, .aload_n 0, 1), (1, .iconst 0, 1), (2, .putfield 146, 3), (5, .aload_n 0, 1), (6, .getfield 154, 3), (9, .istore_n 1, 1), (10, .aload_n 0, 1), (11, .iconst 0, 1), (12, .putfield 154, 3), (15, .iload_n 1, 1), (16, .ireturn, 1)]
def am_m116 : aM := (yX11_clear, cX11_clear, 2, some .int, 11, [], 0, am_i116)
theorem am_k116 : am_okM am_m116 := ⟨by decide +kernel, am_inP 1292 (by decide +kernel) rfl, am_inP 12 (by decide +kernel) rfl, rfl, by decide, by decide +kernel, by decide +kernel⟩
set_option maxRecDepth 100000 in
theorem am_d116 : am_okI am_m116 := by unfold am_okI; decide +kernel
def am_i117 : List (Nat × Instr × Nat) := [(0, .aload_n 0, 1), (1, .aload_n 0, 1), (2, .getfield 159, 3), (5, .ifCond .ne 7, 3), (8, .iload_n 1, 1), (9, .goto 7, 3), (12, .aload_n 0, 1), (13, .getfield 159, 3), (16, .putfield 159, 3), (19, .return_, 1)]
def am_m117 : aM := (yX11_halt, cX11_halt, 2, none, 11, [], 1, am_i117)
theorem am_k117 : am_okM am_m117 := ⟨by decide +kernel, am_inP 1308 (by decide +kernel) rfl, am_inP 12 (by decide +kernel) rfl, rfl, by decide, by decide +kernel, by decide +kernel⟩
set_option maxRecDepth 100000 in
theorem am_d117 : am_okI am_m117 := by unfold am_okI; decide +kernel
def am_i118 : List (Nat × Instr × Nat) := [(0, .iload_n 0, 1), (1, .bipush 9, 2), (3, .if_icmp .eq 39, 3), (6, .iload_n 0, 1), (7, .bipush 10, 2), (9, .if_icmp .eq 33, 3), (12, .iload_n 0, 1), (13, .bipush 13, 2), (15, .if_icmp .eq 27, 3), (18, .iload_n 0, 1), (19, .bipush 32, 2), (21, .if_icmp .lt 9, 3), (24, .iload_n 0, 1), (25, .ldc 162, 2), (27, .if_icmp .le 15, 3), (30, .iload_n 0, 1), (31, .ldc 163, 2), (33, .if_icmp .lt 13, 3), (36, .iload_n 0, 1), (37, .ldc 164, 2), (39, .if_icmp .gt 7, 3), (42, .iconst 1, 1), (43, .goto 4, 3), (46, .iconst 0, 1), (47, .ireturn, 1)]
def am_m118 : aM := (yX11_good, cX11_good, 1, some .boolean, 11, [], 1, am_i118)
theorem am_k118 : am_okM am_m118 := ⟨by decide +kernel, am_inP 1315 (by decide +kernel) rfl, am_inP 12 (by decide +kernel) rfl, rfl, by decide, by decide +kernel, by decide +kernel⟩
set_option maxRecDepth 100000 in
theorem am_d118 : am_okI am_m118 := by unfold am_okI; decide +kernel
def am_i119 : List (Nat × Instr × Nat) := [(0, .iload_n 0, 1), (1, .bipush 32, 2), (3, .if_icmp .eq 21, 3), (6, .iload_n 0, 1), (7, .bipush 9, 2), (9, .if_icmp .eq 15, 3), (12, .iload_n 0, 1), (13, .bipush 10, 2), (15, .if_icmp .eq 9, 3), (18, .iload_n 0, 1), (19, .bipush 13, 2), (21, .if_icmp .ne 7, 3), (24, .iconst 1, 1), (25, .goto 4, 3), (28, .iconst 0, 1), (29, .ireturn, 1)]
def am_m119 : aM := (yX11_blank, cX11_blank, 1, some .boolean, 11, [], 1, am_i119)
theorem am_k119 : am_okM am_m119 := ⟨by decide +kernel, am_inP 1333 (by decide +kernel) rfl, am_inP 12 (by decide +kernel) rfl, rfl, by decide, by decide +kernel, by decide +kernel⟩
set_option maxRecDepth 100000 in
theorem am_d119 : am_okI am_m119 := by unfold am_okI; decide +kernel
def am_i120 : List (Nat × Instr × Nat) := [(0, .iload_n 1, 1), (1, .aload_n 0, 1), (2, .getfield 154, 3), (5, .if_icmp .ge 38, 3), (8, .aload_n 0, 1), (9, .getfield 13, 3), (12, .iload_n 1, 1), (13, .iaload, 1), (14, .sipush 128, 3), (17, .if_icmp .lt 26, 3), (20, .aload_n 0, 1), (21, .getfield 13, 3), (24, .iload_n 1, 1), (25, .iaload, 1), (26, .sipush 192, 3), (29, .if_icmp .ge 14, 3), (32, .aload_n 0, 1), (33, .getfield 13, 3), (36, .iload_n 1, 1), (37, .iaload, 1), (38, .sipush 128, 3), (41, .isub, 1), (42, .ireturn, 1), (43, .aload_n 0, 1), (44, .iconst 1, 1), (45, .invokevirtual 165, 3), (48, .iconst 0, 1), (49, .ireturn, 1)]
def am_m120 : aM := (yX11_follower, cX11_follower, 2, some .int, 11, [], 1, am_i120)
theorem am_k120 : am_okM am_m120 := ⟨by decide +kernel, am_inP 1312 (by decide +kernel) rfl, am_inP 12 (by decide +kernel) rfl, rfl, by decide, by decide +kernel, by decide +kernel⟩
set_option maxRecDepth 100000 in
theorem am_d120 : am_okI am_m120 := by unfold am_okI; decide +kernel
def am_i121 : List (Nat × Instr × Nat) := [(0, .aload_n 0, 1), (1, .iconst 0, 1), (2, .putfield 169, 3), (5, .iconst 0, 1), (6, .istore_n 1, 1), (7, .iconst 0, 1), (8, .istore_n 2, 1), (9, .iload_n 2, 1), (10, .aload_n 0, 1), (11, .getfield 154, 3), (14, .if_icmp .ge 236, 3), (17, .aload_n 0, 1), (18, .getfield 159, 3), (21, .ifCond .ne 229, 3), (24, .aload_n 0, 1), (25, .getfield 13, 3), (28, .iload_n 2, 1), (29, .iaload, 1), (30, .istore_n 3, 1), (31, .iload_n 3, 1), (32, .istore 4, 2), (34, .iload_n 3, 1), (35, .sipush 128, 3), (38, .if_icmp .ge 7, 3), (41, .iconst 1, 1), (42, .goto 15, 3), (45, .iload_n 3, 1), (46, .sipush 224, 3), (49, .if_icmp .ge 7, 3), (52, .iconst 2, 1), (53, .goto 4, 3), (56, .iconst 3, 1), (57, .istore 5, 2), (59, .iload_n 3, 1), (60, .sipush 128, 3), (63, .if_icmp .lt 10, 3), (66, .iload_n 3, 1), (67, .sipush 194, 3), (70, .if_icmp .lt 10, 3), (73, .iload_n 3, 1), (74, .sipush 239, 3), (77, .if_icmp .le 8, 3), (80, .aload_n 0, 1), (81, .iconst 1, 1), (82, .invokevirtual 165, 3), (85, .aload_n 0, 1), (86, .getfield 159, 3), (89, .ifCond .ne 27, 3), (92, .iload 5, 2), (94, .iconst 2, 1), (95, .if_icmp .ne 21, 3), (98, .bipush 64, 2), (100, .iload_n 3, 1), (101, .sipush 192, 3), (104, .isub, 1), (105, .imul, 1), (106, .aload_n 0, 1), (107, .iload_n 2, 1), (108, .iconst 1, 1), (109, .iadd, 1), (110, .invokevirtual 172, 3), (113, .iadd, 1), (114, .istore 4, 2), (116, .aload_n 0, 1), (117, .getfield 159, 3), (120, .ifCond .ne 52, 3), (123, .iload 5, 2), (125, .iconst 3, 1), (126, .if_icmp .ne 46, 3), (129, .sipush 4096, 3), (132, .iload_n 3, 1), (133, .sipush 224, 3), (136, .isub, 1), (137, .imul, 1), (138, .bipush 64, 2), (140, .aload_n 0, 1), (141, .iload_n 2, 1), (142, .iconst 1, 1), (143, .iadd, 1), (144, .invokevirtual 172, 3), (147, .imul, 1), (148, .iadd, 1), (149, .aload_n 0, 1), (150, .iload_n 2, 1), (151, .iconst 2, 1), (152, .iadd, 1), (153, .invokevirtual 172, 3), (156, .iadd, 1), (157, .istore 4, 2), (159, .iload 4, 2), (161, .sipush 2048, 3), (164, .if_icmp .ge 8, 3), (167, .aload_n 0, 1), (168, .iconst 1, 1), (169, .invokevirtual 165, 3), (172, .iload 4, 2), (174, .invokestatic 175, 3), (177, .ifCond .ne 8, 3), (180, .aload_n 0, 1), (181, .iconst 1, 1), (182, .invokevirtual 165, 3), (185, .iload 4, 2), (187, .bipush 10, 2), (189, .if_icmp .ne 7, 3), (192, .iload_n 1, 1), (193, .ifCond .ne 36, 3), (196, .aload_n 0, 1), (197, .getfield 16, 3), (200, .aload_n 0, 1), (201, .getfield 169, 3), (204, .iload 4, 2), (206, .bipush 13, 2), (208, .if_icmp .ne 8, 3), (211, .bipush 10, 2), (213, .goto 5, 3), (216, .iload 4, 2), (218, .iastore, 1), (219, .aload_n 0, 1), (220, .dup, 1), (221, .getfield 169, 3), (224, .iconst 1, 1), (225, .iadd, 1), (226, .putfield 169, 3), (229, .iload 4, 2), (231, .bipush 13, 2), (233, .if_icmp .ne 7, 3), (236, .iconst 1, 1), (237, .goto 4, 3), (240, .iconst 0, 1), (241, .istore_n 1, 1), (242, .iload_n 2, 1), (243, .iload 5, 2), (245, .iadd, 1), (246, .istore_n 2, 1), (247, .goto (-238), 3), (250, .aload_n 0, 1), (251, .getfield 29, 3), (254, .iconst 0, 1), (255, .iconst 0, 1), (256, .iastore, 1), (257, .aload_n 0, 1), (258, .getfield 32, 3), (261, .iconst 0, 1), (262, .aload_n 0, 1), (263, .getfield 169, 3), (266, .iastore, 1), (267, .aload_n 0, 1), (268, .iconst 0, 1), (269, .putfield 179, 3), (272, .return_, 1)]
def am_m121 : aM := (yX11_decode, cX11_decode, 6, none, 11, [], 0, am_i121)
theorem am_k121 : am_okM am_m121 := ⟨by decide +kernel, am_inP 1304 (by decide +kernel) rfl, am_inP 12 (by decide +kernel) rfl, rfl, by decide, by decide +kernel, by decide +kernel⟩
set_option maxRecDepth 100000 in
theorem am_d121 : am_okI am_m121 := by unfold am_okI; decide +kernel
def am_i122 : List (Nat × Instr × Nat) := [(0, .aload_n 0, 1), (1, .getfield 159, 3), (4, .ifCond .ne 24, 3), (7, .aload_n 0, 1), (8, .getfield 29, 3), (11, .aload_n 0, 1), (12, .getfield 179, 3), (15, .iaload, 1), (16, .aload_n 0, 1), (17, .getfield 32, 3), (20, .aload_n 0, 1), (21, .getfield 179, 3), (24, .iaload, 1), (25, .if_icmp .ne 7, 3), (28, .iconst (-1), 1), (29, .goto 17, 3), (32, .aload_n 0, 1), (33, .getfield 16, 3), (36, .aload_n 0, 1), (37, .getfield 29, 3), (40, .aload_n 0, 1), (41, .getfield 179, 3), (44, .iaload, 1), (45, .iaload, 1), (46, .ireturn, 1)]
def am_m122 : aM := (yX11_peek, cX11_peek, 1, some .int, 11, [], 0, am_i122)
theorem am_k122 : am_okM am_m122 := ⟨by decide +kernel, am_inP 1330 (by decide +kernel) rfl, am_inP 12 (by decide +kernel) rfl, rfl, by decide, by decide +kernel, by decide +kernel⟩
set_option maxRecDepth 100000 in
theorem am_d122 : am_okI am_m122 := by unfold am_okI; decide +kernel
def am_i123 : List (Nat × Instr × Nat) := [(0, .aload_n 0, 1), (1, .getfield 29, 3), (4, .aload_n 0, 1), (5, .getfield 179, 3), (8, .dup2, 1), (9, .iaload, 1), (10, .iconst 1, 1), (11, .iadd, 1), (12, .iastore, 1), (13, .return_, 1)]
def am_m123 : aM := (yX11_skip, cX11_skip, 1, none, 11, [], 0, am_i123)
theorem am_k123 : am_okM am_m123 := ⟨by decide +kernel, am_inP 1337 (by decide +kernel) rfl, am_inP 12 (by decide +kernel) rfl, rfl, by decide, by decide +kernel, by decide +kernel⟩
set_option maxRecDepth 100000 in
theorem am_d123 : am_okI am_m123 := by unfold am_okI; decide +kernel
end
section
def am_i124 : List (Nat × Instr × Nat) := [(0, .aload_n 0, 1), (1, .invokevirtual 182, 3), (4, .iload_n 1, 1), (5, .if_icmp .ne 10, 3), (8, .aload_n 0, 1), (9, .invokevirtual 186, 3), (12, .goto 8, 3), (15, .aload_n 0, 1), (16, .iconst 1, 1), (17, .invokevirtual 165, 3), (20, .return_, 1)]
def am_m124 : aM := (yX11_need, cX11_need, 2, none, 11, [], 1, am_i124)
theorem am_k124 : am_okM am_m124 := ⟨by decide +kernel, am_inP 1350 (by decide +kernel) rfl, am_inP 12 (by decide +kernel) rfl, rfl, by decide, by decide +kernel, by decide +kernel⟩
set_option maxRecDepth 100000 in
theorem am_d124 : am_okI am_m124 := by unfold am_okI; decide +kernel
def am_i125 : List (Nat × Instr × Nat) := [(0, .bipush 7, 2), (2, .istore_n 3, 1), (3, .iload_n 3, 1), (4, .ifCond .lt 33, 3), (7, .lload_n 1, 1), (8, .bipush 8, 2), (10, .iload_n 3, 1), (11, .imul, 1), (12, .lshr, 1), (13, .ldc2_w 157, 3), (16, .land, 1), (17, .l2i, 1), (18, .istore 4, 2), (20, .iload 4, 2), (22, .ifCond .le 9, 3), (25, .aload_n 0, 1), (26, .iload 4, 2), (28, .invokevirtual 189, 3), (31, .iinc 3 (-1), 3), (34, .goto (-31), 3), (37, .return_, 1)]
def am_m125 : aM := (yX11_word, cX11_word, 5, none, 11, [], 1, am_i125)
theorem am_k125 : am_okM am_m125 := ⟨by decide +kernel, am_inP 1346 (by decide +kernel) rfl, am_inP 12 (by decide +kernel) rfl, rfl, by decide, by decide +kernel, by decide +kernel⟩
set_option maxRecDepth 100000 in
theorem am_d125 : am_okI am_m125 := by unfold am_okI; decide +kernel
def am_i126 : List (Nat × Instr × Nat) := [(0, .iconst 0, 1), (1, .istore_n 1, 1), (2, .aload_n 0, 1), (3, .invokevirtual 182, 3), (6, .invokestatic 192, 3), (9, .ifCond .eq 12, 3), (12, .aload_n 0, 1), (13, .invokevirtual 186, 3), (16, .iconst 1, 1), (17, .istore_n 1, 1), (18, .goto (-16), 3), (21, .iload_n 1, 1), (22, .ireturn, 1)]
def am_m126 : aM := (yX11_blanks, cX11_blanks, 2, some .boolean, 11, [], 0, am_i126)
theorem am_k126 : am_okM am_m126 := ⟨by decide +kernel, am_inP 1326 (by decide +kernel) rfl, am_inP 12 (by decide +kernel) rfl, rfl, by decide, by decide +kernel, by decide +kernel⟩
set_option maxRecDepth 100000 in
theorem am_d126 : am_okI am_m126 := by unfold am_okI; decide +kernel
def am_i127 : List (Nat × Instr × Nat) := [(0, .aload_n 0, 1), (1, .invokevirtual 195, 3), (4, .ifCond .ne 8, 3), (7, .aload_n 0, 1), (8, .iconst 1, 1), (9, .invokevirtual 165, 3), (12, .return_, 1)]
def am_m127 : aM := (yX11_aBlank, cX11_aBlank, 1, none, 11, [], 0, am_i127)
theorem am_k127 : am_okM am_m127 := ⟨by decide +kernel, am_inP 1354 (by decide +kernel) rfl, am_inP 12 (by decide +kernel) rfl, rfl, by decide, by decide +kernel, by decide +kernel⟩
set_option maxRecDepth 100000 in
theorem am_d127 : am_okI am_m127 := by unfold am_okI; decide +kernel
def am_i128 : List (Nat × Instr × Nat) := [(0, .aload_n 0, 1), (1, .invokevirtual 182, 3), (4, .istore_n 1, 1), (5, .iload_n 1, 1), (6, .bipush 97, 2), (8, .if_icmp .lt 9, 3), (11, .iload_n 1, 1), (12, .bipush 122, 2), (14, .if_icmp .le 11, 3), (17, .aload_n 0, 1), (18, .iconst 1, 1), (19, .invokevirtual 165, 3), (22, .goto 7, 3), (25, .aload_n 0, 1), (26, .invokevirtual 186, 3), (29, .aload_n 0, 1), (30, .getfield 159, 3), (33, .ifCond .eq 7, 3), (36, .iconst 0, 1), (37, .goto 7, 3), (40, .iload_n 1, 1), (41, .bipush 97, 2), (43, .isub, 1), (44, .ireturn, 1)]
def am_m128 : aM := (yX11_letter, cX11_letter, 2, some .int, 11, [], 0, am_i128)
theorem am_k128 : am_okM am_m128 := ⟨by decide +kernel, am_inP 1358 (by decide +kernel) rfl, am_inP 12 (by decide +kernel) rfl, rfl, by decide, by decide +kernel, by decide +kernel⟩
set_option maxRecDepth 100000 in
theorem am_d128 : am_okI am_m128 := by unfold am_okI; decide +kernel
def am_i129 : List (Nat × Instr × Nat) := [(0, .aload_n 0, 1), (1, .bipush 45, 2), (3, .invokevirtual 189, 3), (6, .aload_n 0, 1), (7, .bipush 45, 2), (9, .invokevirtual 189, 3), (12, .iconst 0, 1), (13, .istore_n 1, 1), (14, .iload_n 1, 1), (15, .ifCond .ne 65, 3), (18, .aload_n 0, 1), (19, .getfield 159, 3), (22, .ifCond .ne 58, 3), (25, .aload_n 0, 1), (26, .invokevirtual 182, 3), (29, .istore_n 2, 1), (30, .iload_n 2, 1), (31, .ifCond .ge 8, 3), (34, .aload_n 0, 1), (35, .iconst 1, 1), (36, .invokevirtual 165, 3), (39, .aload_n 0, 1), (40, .getfield 159, 3), (43, .ifCond .ne 7, 3), (46, .aload_n 0, 1), (47, .invokevirtual 186, 3), (50, .iload_n 2, 1), (51, .bipush 45, 2), (53, .if_icmp .ne 24, 3), (56, .aload_n 0, 1), (57, .invokevirtual 182, 3), (60, .bipush 45, 2), (62, .if_icmp .ne 15, 3), (65, .aload_n 0, 1), (66, .invokevirtual 186, 3), (69, .aload_n 0, 1), (70, .bipush 62, 2), (72, .invokevirtual 189, 3), (75, .iconst 1, 1), (76, .istore_n 1, 1), (77, .goto (-63), 3), (80, .return_, 1)]
def am_m129 : aM := (yX11_comment, cX11_comment, 3, none, 11, [], 0, am_i129)
theorem am_k129 : am_okM am_m129 := ⟨by decide +kernel, am_inP 1372 (by decide +kernel) rfl, am_inP 12 (by decide +kernel) rfl, rfl, by decide, by decide +kernel, by decide +kernel⟩
set_option maxRecDepth 100000 in
theorem am_d129 : am_okI am_m129 := by unfold am_okI; decide +kernel
def am_i130 : List (Nat × Instr × Nat) := [(0, .iload_n 0, 1), (1, .bipush 97, 2), (3, .if_icmp .lt 9, 3), (6, .iload_n 0, 1), (7, .bipush 122, 2), (9, .if_icmp .le 15, 3), (12, .iload_n 0, 1), (13, .bipush 48, 2), (15, .if_icmp .lt 13, 3), (18, .iload_n 0, 1), (19, .bipush 57, 2), (21, .if_icmp .gt 7, 3), (24, .iconst 1, 1), (25, .goto 4, 3), (28, .iconst 0, 1), (29, .ireturn, 1)]
def am_m130 : aM := (yX11_tokenLetter, cX11_tokenLetter, 1, some .boolean, 11, [], 1, am_i130)
theorem am_k130 : am_okM am_m130 := ⟨by decide +kernel, am_inP 1400 (by decide +kernel) rfl, am_inP 12 (by decide +kernel) rfl, rfl, by decide, by decide +kernel, by decide +kernel⟩
set_option maxRecDepth 100000 in
theorem am_d130 : am_okI am_m130 := by unfold am_okI; decide +kernel
def am_i131 : List (Nat × Instr × Nat) := [(0, .iconst 0, 1), (1, .istore_n 1, 1), (2, .iconst 0, 1), (3, .istore_n 2, 1), (4, .iload_n 1, 1), (5, .bipush 6, 2), (7, .if_icmp .ge 44, 3), (10, .aload_n 0, 1), (11, .invokevirtual 182, 3), (14, .bipush 48, 2), (16, .if_icmp .lt 35, 3), (19, .aload_n 0, 1), (20, .invokevirtual 182, 3), (23, .bipush 57, 2), (25, .if_icmp .gt 26, 3), (28, .bipush 10, 2), (30, .iload_n 2, 1), (31, .imul, 1), (32, .aload_n 0, 1), (33, .invokevirtual 182, 3), (36, .iadd, 1), (37, .bipush 48, 2), (39, .isub, 1), (40, .istore_n 2, 1), (41, .aload_n 0, 1), (42, .invokevirtual 186, 3), (45, .iinc 1 1, 3), (48, .goto (-44), 3), (51, .iload_n 1, 1), (52, .ifCond .ne 8, 3), (55, .aload_n 0, 1), (56, .iconst 1, 1), (57, .invokevirtual 165, 3), (60, .aload_n 0, 1), (61, .bipush 59, 2), (63, .invokevirtual 189, 3), (66, .iload_n 2, 1), (67, .invokestatic 175, 3), (70, .ifCond .ne 8, 3), (73, .aload_n 0, 1), (74, .iconst 1, 1), (75, .invokevirtual 165, 3), (78, .iload_n 2, 1), (79, .ireturn, 1)]
def am_m131 : aM := (yX11_numbered, cX11_numbered, 3, some .int, 11, [], 0, am_i131)
theorem am_k131 : am_okM am_m131 := ⟨by decide +kernel, am_inP 1419 (by decide +kernel) rfl, am_inP 12 (by decide +kernel) rfl, rfl, by decide, by decide +kernel, by decide +kernel⟩
set_option maxRecDepth 100000 in
theorem am_d131 : am_okI am_m131 := by unfold am_okI; decide +kernel
def am_i132 : List (Nat × Instr × Nat) := [(0, .aload_n 0, 1), (1, .invokevirtual 182, 3), (4, .bipush 35, 2), (6, .if_icmp .ne 12, 3), (9, .aload_n 0, 1), (10, .invokevirtual 186, 3), (13, .aload_n 0, 1), (14, .invokevirtual 199, 3), (17, .ireturn, 1), (18, .aload_n 0, 1), (19, .invokevirtual 202, 3), (22, .istore_n 1, 1), (23, .aload_n 0, 1), (24, .invokevirtual 182, 3), (27, .bipush 59, 2), (29, .if_icmp .ne 14, 3), (32, .aload_n 0, 1), (33, .invokevirtual 186, 3), (36, .aload_n 0, 1), (37, .iload_n 1, 1), (38, .invokevirtual 205, 3), (41, .iconst (-1), 1), (42, .ireturn, 1), (43, .iload_n 1, 1), (44, .bipush 11, 2), (46, .if_icmp .ne 13, 3), (49, .aload_n 0, 1), (50, .ldc2_w 208, 3), (53, .invokevirtual 210, 3), (56, .bipush 60, 2), (58, .ireturn, 1), (59, .iload_n 1, 1), (60, .ifCond .eq 8, 3), (63, .aload_n 0, 1), (64, .iconst 1, 1), (65, .invokevirtual 165, 3), (68, .aload_n 0, 1), (69, .ldc2_w 214, 3), (72, .invokevirtual 210, 3), (75, .bipush 38, 2), (77, .ireturn, 1)]
def am_m132 : aM := (yX11_reference, cX11_reference, 2, some .int, 11, [], 0, am_i132)
theorem am_k132 : am_okM am_m132 := ⟨by decide +kernel, am_inP 1415 (by decide +kernel) rfl, am_inP 12 (by decide +kernel) rfl, rfl, by decide, by decide +kernel, by decide +kernel⟩
set_option maxRecDepth 100000 in
theorem am_d132 : am_okI am_m132 := by unfold am_okI; decide +kernel
def am_i133 : List (Nat × Instr × Nat) := [(0, .aload_n 0, 1), (1, .getfield 159, 3), (4, .ifCond .ne 26, 3), (7, .aload_n 0, 1), (8, .getfield 19, 3), (11, .iload_n 1, 1), (12, .iaload, 1), (13, .ifCond .lt 12, 3), (16, .aload_n 0, 1), (17, .getfield 25, 3), (20, .iload_n 1, 1), (21, .baload, 1), (22, .ifCond .eq 8, 3), (25, .aload_n 0, 1), (26, .iconst 1, 1), (27, .invokevirtual 165, 3), (30, .aload_n 0, 1), (31, .getfield 159, 3), (34, .ifCond .eq 4, 3), (37, .return_, 1), (38, .aload_n 0, 1), (39, .dup, 1), (40, .getfield 216, 3), (43, .aload_n 0, 1), (44, .getfield 22, 3), (47, .iload_n 1, 1), (48, .iaload, 1), (49, .iconst 1, 1), (50, .iadd, 1), (51, .iadd, 1), (52, .putfield 216, 3), (55, .aload_n 0, 1), (56, .getfield 216, 3), (59, .aload_n 0, 1), (60, .getfield 219, 3), (63, .if_icmp .gt 17, 3), (66, .aload_n 0, 1), (67, .getfield 222, 3), (70, .aload_n 0, 1), (71, .getfield 179, 3), (74, .iadd, 1), (75, .bipush 16, 2), (77, .if_icmp .ne 9, 3), (80, .aload_n 0, 1), (81, .iconst 2, 1), (82, .invokevirtual 165, 3), (85, .return_, 1), (86, .aload_n 0, 1), (87, .dup, 1), (88, .getfield 179, 3), (91, .iconst 1, 1), (92, .iadd, 1), (93, .putfield 179, 3), (96, .aload_n 0, 1), (97, .getfield 29, 3), (100, .aload_n 0, 1), (101, .getfield 179, 3), (104, .aload_n 0, 1), (105, .getfield 19, 3), (108, .iload_n 1, 1), (109, .iaload, 1), (110, .iastore, 1), (111, .aload_n 0, 1), (112, .getfield 32, 3), (115, .aload_n 0, 1), (116, .getfield 179, 3), (119, .aload_n 0, 1), (120, .getfield 19, 3), (123, .iload_n 1, 1), (124, .iaload, 1), (125, .aload_n 0, 1), (126, .getfield 22, 3), (129, .iload_n 1, 1), (130, .iaload, 1), (131, .iadd, 1), (132, .iastore, 1), (133, .aload_n 0, 1), (134, .getfield 35, 3), (137, .aload_n 0, 1), (138, .getfield 179, 3), (141, .iload_n 1, 1), (142, .iastore, 1), (143, .aload_n 0, 1), (144, .getfield 38, 3), (147, .aload_n 0, 1), (148, .getfield 179, 3), (151, .aload_n 0, 1), (152, .getfield 222, 3), (155, .iastore, 1), (156, .aload_n 0, 1), (157, .getfield 25, 3), (160, .iload_n 1, 1), (161, .iconst 1, 1), (162, .bastore, 1), (163, .return_, 1)]
def am_m133 : aM := (yX11_enter, cX11_enter, 2, none, 11, [], 1, am_i133)
theorem am_k133 : am_okM am_m133 := ⟨by decide +kernel, am_inP 1423 (by decide +kernel) rfl, am_inP 12 (by decide +kernel) rfl, rfl, by decide, by decide +kernel, by decide +kernel⟩
set_option maxRecDepth 100000 in
theorem am_d133 : am_okI am_m133 := by unfold am_okI; decide +kernel
def am_i134 : List (Nat × Instr × Nat) := [(0, .aload_n 0, 1), (1, .getfield 25, 3), (4, .aload_n 0, 1), (5, .getfield 35, 3), (8, .aload_n 0, 1), (9, .getfield 179, 3), (12, .iaload, 1), (13, .iconst 0, 1), (14, .bastore, 1), (15, .aload_n 0, 1), (16, .dup, 1), (17, .getfield 179, 3), (20, .iconst 1, 1), (21, .isub, 1), (22, .putfield 179, 3), (25, .return_, 1)]
def am_m134 : aM := (yX11_leave, cX11_leave, 1, none, 11, [], 0, am_i134)
theorem am_k134 : am_okM am_m134 := ⟨by decide +kernel, am_inP 1411 (by decide +kernel) rfl, am_inP 12 (by decide +kernel) rfl, rfl, by decide, by decide +kernel, by decide +kernel⟩
set_option maxRecDepth 100000 in
theorem am_d134 : am_okI am_m134 := by unfold am_okI; decide +kernel
def am_i135 : List (Nat × Instr × Nat) := [(0, .aload_n 0, 1), (1, .getfield 179, 3), (4, .istore_n 1, 1), (5, .iconst 0, 1), (6, .istore_n 2, 1), (7, .aload_n 0, 1), (8, .iconst 0, 1), (9, .putfield 225, 3), (12, .aload_n 0, 1), (13, .bipush 34, 2), (15, .invokevirtual 189, 3), (18, .iload_n 2, 1), (19, .ifCond .ne 147, 3), (22, .aload_n 0, 1), (23, .getfield 159, 3), (26, .ifCond .ne 140, 3), (29, .aload_n 0, 1), (30, .invokevirtual 182, 3), (33, .istore_n 3, 1), (34, .iload_n 3, 1), (35, .invokestatic 192, 3), (38, .ifCond .eq 8, 3), (41, .bipush 32, 2), (43, .goto 4, 3), (46, .iload_n 3, 1), (47, .istore 4, 2), (49, .iload_n 3, 1), (50, .ifCond .ge 29, 3), (53, .iconst (-1), 1), (54, .istore 4, 2), (56, .aload_n 0, 1), (57, .getfield 179, 3), (60, .iload_n 1, 1), (61, .if_icmp .le 10, 3), (64, .aload_n 0, 1), (65, .invokevirtual 228, 3), (68, .goto 58, 3), (71, .aload_n 0, 1), (72, .iconst 1, 1), (73, .invokevirtual 165, 3), (76, .goto 50, 3), (79, .aload_n 0, 1), (80, .invokevirtual 186, 3), (83, .iload_n 3, 1), (84, .bipush 34, 2), (86, .if_icmp .ne 15, 3), (89, .aload_n 0, 1), (90, .getfield 179, 3), (93, .iload_n 1, 1), (94, .if_icmp .ne 7, 3), (97, .iconst 1, 1), (98, .goto 4, 3), (101, .iconst 0, 1), (102, .istore_n 2, 1), (103, .iload_n 3, 1), (104, .bipush 60, 2), (106, .if_icmp .ne 8, 3), (109, .aload_n 0, 1), (110, .iconst 1, 1), (111, .invokevirtual 165, 3), (114, .iload_n 3, 1), (115, .bipush 38, 2), (117, .if_icmp .ne 9, 3), (120, .aload_n 0, 1), (121, .invokevirtual 231, 3), (124, .istore 4, 2), (126, .iload 4, 2), (128, .ifCond .lt 35, 3), (131, .iload_n 2, 1), (132, .ifCond .ne 31, 3), (135, .aload_n 0, 1), (136, .getfield 159, 3), (139, .ifCond .ne 24, 3), (142, .aload_n 0, 1), (143, .getfield 125, 3), (146, .aload_n 0, 1), (147, .getfield 225, 3), (150, .iload 4, 2), (152, .iastore, 1), (153, .aload_n 0, 1), (154, .dup, 1), (155, .getfield 225, 3), (158, .iconst 1, 1), (159, .iadd, 1), (160, .putfield 225, 3), (163, .goto (-145), 3), (166, .return_, 1)]
def am_m135 : aM := (yX11_quoted, cX11_quoted, 5, none, 11, [], 0, am_i135)
theorem am_k135 : am_okM am_m135 := ⟨by decide +kernel, am_inP 1407 (by decide +kernel) rfl, am_inP 12 (by decide +kernel) rfl, rfl, by decide, by decide +kernel, by decide +kernel⟩
set_option maxRecDepth 100000 in
theorem am_d135 : am_okI am_m135 := by unfold am_okI; decide +kernel
def am_i136 : List (Nat × Instr × Nat) := [(0, .iconst 0, 1), (1, .istore_n 1, 1), (2, .iconst 0, 1), (3, .istore_n 2, 1), (4, .iload_n 2, 1), (5, .aload_n 0, 1), (6, .getfield 225, 3), (9, .if_icmp .ge 62, 3), (12, .aload_n 0, 1), (13, .getfield 125, 3), (16, .iload_n 2, 1), (17, .iaload, 1), (18, .bipush 32, 2), (20, .if_icmp .ne 24, 3), (23, .iload_n 1, 1), (24, .ifCond .eq 16, 3), (27, .aload_n 0, 1), (28, .getfield 125, 3), (31, .iload_n 1, 1), (32, .iconst 1, 1), (33, .isub, 1), (34, .iaload, 1), (35, .bipush 32, 2), (37, .if_icmp .ne 7, 3), (40, .iconst 1, 1), (41, .goto 4, 3), (44, .iconst 0, 1), (45, .istore_n 3, 1), (46, .iload_n 3, 1), (47, .ifCond .ne 18, 3), (50, .aload_n 0, 1), (51, .getfield 125, 3), (54, .iload_n 1, 1), (55, .aload_n 0, 1), (56, .getfield 125, 3), (59, .iload_n 2, 1), (60, .iaload, 1), (61, .iastore, 1), (62, .iinc 1 1, 3), (65, .iinc 2 1, 3), (68, .goto (-64), 3), (71, .aload_n 0, 1), (72, .iload_n 1, 1), (73, .ifCond .le 22, 3), (76, .aload_n 0, 1), (77, .getfield 125, 3), (80, .iload_n 1, 1), (81, .iconst 1, 1), (82, .isub, 1), (83, .iaload, 1), (84, .bipush 32, 2), (86, .if_icmp .ne 9, 3), (89, .iload_n 1, 1), (90, .iconst 1, 1), (91, .isub, 1), (92, .goto 4, 3), (95, .iload_n 1, 1), (96, .putfield 225, 3), (99, .return_, 1)]
def am_m136 : aM := (yX11_shorten, cX11_shorten, 4, none, 11, [], 0, am_i136)
theorem am_k136 : am_okM am_m136 := ⟨by decide +kernel, am_inP 1429 (by decide +kernel) rfl, am_inP 12 (by decide +kernel) rfl, rfl, by decide, by decide +kernel, by decide +kernel⟩
set_option maxRecDepth 100000 in
theorem am_d136 : am_okI am_m136 := by unfold am_okI; decide +kernel
def am_i137 : List (Nat × Instr × Nat) := [(0, .aload_n 0, 1), (1, .invokevirtual 182, 3), (4, .bipush 83, 2), (6, .if_icmp .ne 13, 3), (9, .aload_n 0, 1), (10, .ldc2_w 234, 3), (13, .invokevirtual 210, 3), (16, .goto 23, 3), (19, .aload_n 0, 1), (20, .invokevirtual 182, 3), (23, .bipush 80, 2), (25, .if_icmp .ne 13, 3), (28, .aload_n 0, 1), (29, .ldc2_w 236, 3), (32, .invokevirtual 210, 3), (35, .goto 4, 3), (38, .return_, 1), (39, .aload_n 0, 1), (40, .iconst 3, 1), (41, .invokevirtual 165, 3), (44, .return_, 1)]
def am_m137 : aM := (yX11_outside, cX11_outside, 1, none, 11, [], 0, am_i137)
theorem am_k137 : am_okM am_m137 := ⟨by decide +kernel, am_inP 1362 (by decide +kernel) rfl, am_inP 12 (by decide +kernel) rfl, rfl, by decide, by decide +kernel, by decide +kernel⟩
set_option maxRecDepth 100000 in
theorem am_d137 : am_okI am_m137 := by unfold am_okI; decide +kernel
def am_i138 : List (Nat × Instr × Nat) := [(0, .aload_n 0, 1), (1, .ldc2_w 238, 3), (4, .invokevirtual 210, 3), (7, .aload_n 0, 1), (8, .bipush 69, 2), (10, .invokevirtual 189, 3), (13, .aload_n 0, 1), (14, .invokevirtual 240, 3), (17, .aload_n 0, 1), (18, .aload_n 0, 1), (19, .invokevirtual 202, 3), (22, .putfield 243, 3), (25, .aload_n 0, 1), (26, .invokevirtual 195, 3), (29, .pop, 1), (30, .aload_n 0, 1), (31, .invokevirtual 246, 3), (34, .aload_n 0, 1), (35, .invokevirtual 182, 3), (38, .bipush 91, 2), (40, .if_icmp .ne 48, 3), (43, .aload_n 0, 1), (44, .invokevirtual 186, 3), (47, .aload_n 0, 1), (48, .invokevirtual 182, 3), (51, .bipush 93, 2), (53, .if_icmp .eq 24, 3), (56, .aload_n 0, 1), (57, .getfield 159, 3), (60, .ifCond .ne 17, 3), (63, .aload_n 0, 1), (64, .invokevirtual 195, 3), (67, .ifCond .ne (-20), 3), (70, .aload_n 0, 1), (71, .invokevirtual 249, 3), (74, .goto (-27), 3), (77, .aload_n 0, 1), (78, .bipush 93, 2), (80, .invokevirtual 189, 3), (83, .aload_n 0, 1), (84, .invokevirtual 195, 3), (87, .pop, 1), (88, .aload_n 0, 1), (89, .bipush 62, 2), (91, .invokevirtual 189, 3), (94, .aload_n 0, 1), (95, .iconst 1, 1), (96, .putfield 252, 3), (99, .return_, 1)]
def am_m138 : aM := (yX11_doctype, cX11_doctype, 1, none, 11, [], 0, am_i138)
theorem am_k138 : am_okM am_m138 := ⟨by decide +kernel, am_inP 1341 (by decide +kernel) rfl, am_inP 12 (by decide +kernel) rfl, rfl, by decide, by decide +kernel, by decide +kernel⟩
set_option maxRecDepth 100000 in
theorem am_d138 : am_okI am_m138 := by unfold am_okI; decide +kernel
def am_i139 : List (Nat × Instr × Nat) := [(0, .aload_n 0, 1), (1, .bipush 60, 2), (3, .invokevirtual 189, 3), (6, .aload_n 0, 1), (7, .bipush 33, 2), (9, .invokevirtual 189, 3), (12, .aload_n 0, 1), (13, .invokevirtual 182, 3), (16, .bipush 45, 2), (18, .if_icmp .ne 8, 3), (21, .aload_n 0, 1), (22, .invokevirtual 256, 3), (25, .return_, 1), (26, .aload_n 0, 1), (27, .invokevirtual 182, 3), (30, .bipush 65, 2), (32, .if_icmp .ne 21, 3), (35, .aload_n 0, 1), (36, .ldc2_w 259, 3), (39, .invokevirtual 210, 3), (42, .aload_n 0, 1), (43, .invokevirtual 240, 3), (46, .aload_n 0, 1), (47, .invokevirtual 261, 3), (50, .goto 56, 3), (53, .aload_n 0, 1), (54, .bipush 69, 2), (56, .invokevirtual 189, 3), (59, .aload_n 0, 1), (60, .invokevirtual 182, 3), (63, .bipush 76, 2), (65, .if_icmp .ne 21, 3), (68, .aload_n 0, 1), (69, .ldc2_w 264, 3), (72, .invokevirtual 210, 3), (75, .aload_n 0, 1), (76, .invokevirtual 240, 3), (79, .aload_n 0, 1), (80, .invokevirtual 266, 3), (83, .goto 18, 3), (86, .aload_n 0, 1), (87, .ldc2_w 269, 3), (90, .invokevirtual 210, 3), (93, .aload_n 0, 1), (94, .invokevirtual 240, 3), (97, .aload_n 0, 1), (98, .invokevirtual 271, 3), (101, .aload_n 0, 1), (102, .invokevirtual 195, 3), (105, .pop, 1), (106, .aload_n 0, 1), (107, .bipush 62, 2), (109, .invokevirtual 189, 3), (112, .return_, 1)]
def am_m139 : aM := (yX11_declaration, cX11_declaration, 1, none, 11, [], 0, am_i139)
theorem am_k139 : am_okM am_m139 := ⟨by decide +kernel, am_inP 1368 (by decide +kernel) rfl, am_inP 12 (by decide +kernel) rfl, rfl, by decide, by decide +kernel, by decide +kernel⟩
set_option maxRecDepth 100000 in
theorem am_d139 : am_okI am_m139 := by unfold am_okI; decide +kernel
def am_i140 : List (Nat × Instr × Nat) := [(0, .aload_n 0, 1), (1, .invokevirtual 182, 3), (4, .bipush 37, 2), (6, .if_icmp .ne 8, 3), (9, .aload_n 0, 1), (10, .iconst 3, 1), (11, .invokevirtual 165, 3), (14, .aload_n 0, 1), (15, .invokevirtual 202, 3), (18, .istore_n 1, 1), (19, .aload_n 0, 1), (20, .invokevirtual 240, 3), (23, .aload_n 0, 1), (24, .invokevirtual 246, 3), (27, .aload_n 0, 1), (28, .getfield 169, 3), (31, .istore_n 2, 1), (32, .aload_n 0, 1), (33, .bipush 34, 2), (35, .invokevirtual 189, 3), (38, .aload_n 0, 1), (39, .invokevirtual 182, 3), (42, .bipush 34, 2), (44, .if_icmp .eq 78, 3), (47, .aload_n 0, 1), (48, .getfield 159, 3), (51, .ifCond .ne 71, 3), (54, .aload_n 0, 1), (55, .invokevirtual 182, 3), (58, .istore_n 3, 1), (59, .iload_n 3, 1), (60, .ifCond .ge 11, 3), (63, .aload_n 0, 1), (64, .iconst 1, 1), (65, .invokevirtual 165, 3), (68, .goto 7, 3), (71, .aload_n 0, 1), (72, .invokevirtual 186, 3), (75, .iload_n 3, 1), (76, .bipush 38, 2), (78, .if_icmp .ne 21, 3), (81, .aload_n 0, 1), (82, .invokevirtual 182, 3), (85, .bipush 35, 2), (87, .if_icmp .ne 12, 3), (90, .aload_n 0, 1), (91, .invokevirtual 186, 3), (94, .aload_n 0, 1), (95, .invokevirtual 199, 3), (98, .istore_n 3, 1), (99, .aload_n 0, 1), (100, .getfield 16, 3), (103, .aload_n 0, 1), (104, .getfield 169, 3), (107, .iload_n 3, 1), (108, .iastore, 1), (109, .aload_n 0, 1), (110, .dup, 1), (111, .getfield 169, 3), (114, .iconst 1, 1), (115, .iadd, 1), (116, .putfield 169, 3), (119, .goto (-81), 3), (122, .aload_n 0, 1), (123, .bipush 34, 2), (125, .invokevirtual 189, 3), (128, .aload_n 0, 1), (129, .getfield 159, 3), (132, .ifCond .eq 4, 3), (135, .return_, 1), (136, .aload_n 0, 1), (137, .getfield 19, 3), (140, .iload_n 1, 1), (141, .iaload, 1), (142, .ifCond .lt 11, 3), (145, .aload_n 0, 1), (146, .iload_n 2, 1), (147, .putfield 169, 3), (150, .goto 22, 3), (153, .aload_n 0, 1), (154, .getfield 19, 3), (157, .iload_n 1, 1), (158, .iload_n 2, 1), (159, .iastore, 1), (160, .aload_n 0, 1), (161, .getfield 22, 3), (164, .iload_n 1, 1), (165, .aload_n 0, 1), (166, .getfield 169, 3), (169, .iload_n 2, 1), (170, .isub, 1), (171, .iastore, 1), (172, .return_, 1)]
def am_m140 : aM := (yX11_entityText, cX11_entityText, 4, none, 11, [], 0, am_i140)
theorem am_k140 : am_okM am_m140 := ⟨by decide +kernel, am_inP 1478 (by decide +kernel) rfl, am_inP 12 (by decide +kernel) rfl, rfl, by decide, by decide +kernel, by decide +kernel⟩
set_option maxRecDepth 100000 in
theorem am_d140 : am_okI am_m140 := by unfold am_okI; decide +kernel
def am_i141 : List (Nat × Instr × Nat) := [(0, .aload_n 0, 1), (1, .invokevirtual 182, 3), (4, .istore_n 2, 1), (5, .aload_n 0, 1), (6, .getfield 98, 3), (9, .iload_n 1, 1), (10, .iconst (-1), 1), (11, .iastore, 1), (12, .iload_n 2, 1), (13, .bipush 67, 2), (15, .if_icmp .ne 20, 3), (18, .aload_n 0, 1), (19, .ldc2_w 274, 3), (22, .invokevirtual 210, 3), (25, .aload_n 0, 1), (26, .getfield 98, 3), (29, .iload_n 1, 1), (30, .iconst 0, 1), (31, .iastore, 1), (32, .goto 115, 3), (35, .iload_n 2, 1), (36, .bipush 73, 2), (38, .if_icmp .ne 43, 3), (41, .aload_n 0, 1), (42, .ldc2_w 276, 3), (45, .invokevirtual 210, 3), (48, .aload_n 0, 1), (49, .getfield 98, 3), (52, .iload_n 1, 1), (53, .iconst 1, 1), (54, .iastore, 1), (55, .aload_n 0, 1), (56, .invokevirtual 182, 3), (59, .bipush 82, 2), (61, .if_icmp .ne 86, 3), (64, .aload_n 0, 1), (65, .ldc2_w 278, 3), (68, .invokevirtual 210, 3), (71, .aload_n 0, 1), (72, .getfield 98, 3), (75, .iload_n 1, 1), (76, .iconst 2, 1), (77, .iastore, 1), (78, .goto 69, 3), (81, .iload_n 2, 1), (82, .bipush 78, 2), (84, .if_icmp .ne 20, 3), (87, .aload_n 0, 1), (88, .ldc2_w 280, 3), (91, .invokevirtual 210, 3), (94, .aload_n 0, 1), (95, .getfield 98, 3), (98, .iload_n 1, 1), (99, .iconst 3, 1), (100, .iastore, 1), (101, .goto 46, 3), (104, .aload_n 0, 1), (105, .bipush 40, 2), (107, .invokevirtual 189, 3), (110, .aload_n 0, 1), (111, .getfield 98, 3), (114, .iload_n 1, 1), (115, .iconst 4, 1), (116, .iastore, 1), (117, .aload_n 0, 1), (118, .invokevirtual 282, 3), (121, .aload_n 0, 1), (122, .invokevirtual 182, 3), (125, .bipush 124, 2), (127, .if_icmp .ne 14, 3), (130, .aload_n 0, 1), (131, .invokevirtual 186, 3), (134, .aload_n 0, 1), (135, .invokevirtual 282, 3), (138, .goto (-17), 3), (141, .aload_n 0, 1), (142, .bipush 41, 2), (144, .invokevirtual 189, 3), (147, .aload_n 0, 1), (148, .getfield 113, 3), (151, .iload_n 1, 1), (152, .aload_n 0, 1), (153, .getfield 285, 3), (156, .iastore, 1), (157, .return_, 1)]
def am_m141 : aM := (yX11_type, cX11_type, 3, none, 11, [], 1, am_i141)
theorem am_k141 : am_okM am_m141 := ⟨by decide +kernel, am_inP 1389 (by decide +kernel) rfl, am_inP 12 (by decide +kernel) rfl, rfl, by decide, by decide +kernel, by decide +kernel⟩
set_option maxRecDepth 100000 in
theorem am_d141 : am_okI am_m141 := by unfold am_okI; decide +kernel
def am_i142 : List (Nat × Instr × Nat) := [(0, .aload_n 0, 1), (1, .invokevirtual 195, 3), (4, .pop, 1), (5, .aload_n 0, 1), (6, .invokevirtual 182, 3), (9, .invokestatic 288, 3), (12, .ifCond .ne 8, 3), (15, .aload_n 0, 1), (16, .iconst 1, 1), (17, .invokevirtual 165, 3), (20, .aload_n 0, 1), (21, .getfield 116, 3), (24, .aload_n 0, 1), (25, .getfield 285, 3), (28, .aload_n 0, 1), (29, .getfield 291, 3), (32, .iastore, 1), (33, .aload_n 0, 1), (34, .invokevirtual 182, 3), (37, .invokestatic 288, 3), (40, .ifCond .eq 33, 3), (43, .aload_n 0, 1), (44, .getfield 122, 3), (47, .aload_n 0, 1), (48, .getfield 291, 3), (51, .aload_n 0, 1), (52, .invokevirtual 182, 3), (55, .iastore, 1), (56, .aload_n 0, 1), (57, .dup, 1), (58, .getfield 291, 3), (61, .iconst 1, 1), (62, .iadd, 1), (63, .putfield 291, 3), (66, .aload_n 0, 1), (67, .invokevirtual 186, 3), (70, .goto (-37), 3), (73, .aload_n 0, 1), (74, .getfield 119, 3), (77, .aload_n 0, 1), (78, .getfield 285, 3), (81, .aload_n 0, 1), (82, .getfield 291, 3), (85, .aload_n 0, 1), (86, .getfield 116, 3), (89, .aload_n 0, 1), (90, .getfield 285, 3), (93, .iaload, 1), (94, .isub, 1), (95, .iastore, 1), (96, .aload_n 0, 1), (97, .dup, 1), (98, .getfield 285, 3), (101, .iconst 1, 1), (102, .iadd, 1), (103, .putfield 285, 3), (106, .aload_n 0, 1), (107, .invokevirtual 195, 3), (110, .pop, 1), (111, .return_, 1)]
def am_m142 : aM := (yX11_token, cX11_token, 1, none, 11, [], 0, am_i142)
theorem am_k142 : am_okM am_m142 := ⟨by decide +kernel, am_inP 1397 (by decide +kernel) rfl, am_inP 12 (by decide +kernel) rfl, rfl, by decide, by decide +kernel, by decide +kernel⟩
set_option maxRecDepth 100000 in
theorem am_d142 : am_okI am_m142 := by unfold am_okI; decide +kernel
def am_i143 : List (Nat × Instr × Nat) := [(0, .aload_n 0, 1), (1, .invokevirtual 202, 3), (4, .istore_n 1, 1), (5, .iconst 1, 1), (6, .istore_n 2, 1), (7, .iload_n 2, 1), (8, .ifCond .eq 51, 3), (11, .aload_n 0, 1), (12, .getfield 159, 3), (15, .ifCond .ne 44, 3), (18, .aload_n 0, 1), (19, .invokevirtual 195, 3), (22, .istore_n 3, 1), (23, .aload_n 0, 1), (24, .invokevirtual 182, 3), (27, .bipush 62, 2), (29, .if_icmp .eq 7, 3), (32, .iconst 1, 1), (33, .goto 4, 3), (36, .iconst 0, 1), (37, .istore_n 2, 1), (38, .iload_n 2, 1), (39, .ifCond .eq 17, 3), (42, .iload_n 3, 1), (43, .ifCond .ne 8, 3), (46, .aload_n 0, 1), (47, .iconst 1, 1), (48, .invokevirtual 165, 3), (51, .aload_n 0, 1), (52, .iload_n 1, 1), (53, .invokevirtual 294, 3), (56, .goto (-49), 3), (59, .return_, 1)]
def am_m143 : aM := (yX11_attlist, cX11_attlist, 4, none, 11, [], 0, am_i143)
theorem am_k143 : am_okM am_m143 := ⟨by decide +kernel, am_inP 1377 (by decide +kernel) rfl, am_inP 12 (by decide +kernel) rfl, rfl, by decide, by decide +kernel, by decide +kernel⟩
set_option maxRecDepth 100000 in
theorem am_d143 : am_okI am_m143 := by unfold am_okI; decide +kernel
def am_i144 : List (Nat × Instr × Nat) := [(0, .aload_n 0, 1), (1, .getfield 297, 3), (4, .istore_n 2, 1), (5, .aload_n 0, 1), (6, .getfield 92, 3), (9, .iload_n 2, 1), (10, .iload_n 1, 1), (11, .iastore, 1), (12, .aload_n 0, 1), (13, .getfield 95, 3), (16, .iload_n 2, 1), (17, .aload_n 0, 1), (18, .invokevirtual 202, 3), (21, .iastore, 1), (22, .aload_n 0, 1), (23, .iload_n 1, 1), (24, .aload_n 0, 1), (25, .getfield 95, 3), (28, .iload_n 2, 1), (29, .iaload, 1), (30, .invokevirtual 300, 3), (33, .ifCond .lt 7, 3), (36, .iconst 1, 1), (37, .goto 4, 3), (40, .iconst 0, 1), (41, .istore_n 3, 1), (42, .aload_n 0, 1), (43, .getfield 110, 3), (46, .iload_n 2, 1), (47, .aload_n 0, 1), (48, .getfield 285, 3), (51, .iastore, 1), (52, .aload_n 0, 1), (53, .invokevirtual 240, 3), (56, .aload_n 0, 1), (57, .iload_n 2, 1), (58, .invokevirtual 304, 3), (61, .aload_n 0, 1), (62, .invokevirtual 240, 3), (65, .aload_n 0, 1), (66, .invokevirtual 182, 3), (69, .bipush 34, 2), (71, .if_icmp .ne 7, 3), (74, .iconst 1, 1), (75, .goto 4, 3), (78, .iconst 0, 1), (79, .istore 4, 2), (81, .aload_n 0, 1), (82, .getfield 101, 3), (85, .iload_n 2, 1), (86, .iconst 3, 1), (87, .iastore, 1), (88, .iload 4, 2), (90, .ifCond .ne 114, 3), (93, .aload_n 0, 1), (94, .bipush 35, 2), (96, .invokevirtual 189, 3), (99, .aload_n 0, 1), (100, .getfield 101, 3), (103, .iload_n 2, 1), (104, .aload_n 0, 1), (105, .invokevirtual 182, 3), (108, .bipush 82, 2), (110, .if_icmp .ne 7, 3), (113, .iconst 0, 1), (114, .goto 17, 3), (117, .aload_n 0, 1), (118, .invokevirtual 182, 3), (121, .bipush 73, 2), (123, .if_icmp .ne 7, 3), (126, .iconst 1, 1), (127, .goto 4, 3), (130, .iconst 2, 1), (131, .iastore, 1), (132, .aload_n 0, 1), (133, .getfield 101, 3), (136, .iload_n 2, 1), (137, .iaload, 1), (138, .ifCond .ne 13, 3), (141, .aload_n 0, 1), (142, .ldc2_w 306, 3), (145, .invokevirtual 210, 3), (148, .goto 30, 3), (151, .aload_n 0, 1), (152, .getfield 101, 3), (155, .iload_n 2, 1), (156, .iaload, 1), (157, .iconst 1, 1), (158, .if_icmp .ne 13, 3), (161, .aload_n 0, 1), (162, .ldc2_w 308, 3), (165, .invokevirtual 210, 3), (168, .goto 10, 3), (171, .aload_n 0, 1), (172, .ldc2_w 310, 3), (175, .invokevirtual 210, 3), (178, .aload_n 0, 1), (179, .getfield 101, 3), (182, .iload_n 2, 1), (183, .iaload, 1), (184, .iconst 2, 1), (185, .if_icmp .ne 7, 3), (188, .iconst 1, 1), (189, .goto 4, 3), (192, .iconst 0, 1), (193, .istore 4, 2), (195, .iload 4, 2), (197, .ifCond .eq 7, 3), (200, .aload_n 0, 1), (201, .invokevirtual 240, 3), (204, .iload 4, 2), (206, .ifCond .eq 10, 3), (209, .aload_n 0, 1), (210, .invokevirtual 312, 3), (213, .goto 8, 3), (216, .aload_n 0, 1), (217, .iconst 0, 1), (218, .putfield 225, 3), (221, .aload_n 0, 1), (222, .getfield 98, 3), (225, .iload_n 2, 1), (226, .iaload, 1), (227, .ifCond .eq 7, 3), (230, .aload_n 0, 1), (231, .invokevirtual 315, 3), (234, .aload_n 0, 1), (235, .getfield 104, 3), (238, .iload_n 2, 1), (239, .aload_n 0, 1), (240, .getfield 291, 3), (243, .iastore, 1), (244, .aload_n 0, 1), (245, .getfield 107, 3), (248, .iload_n 2, 1), (249, .aload_n 0, 1), (250, .getfield 225, 3), (253, .iastore, 1), (254, .iconst 0, 1), (255, .istore 5, 2), (257, .iload 5, 2), (259, .aload_n 0, 1), (260, .getfield 225, 3), (263, .if_icmp .ge 32, 3), (266, .iload_n 3, 1), (267, .ifCond .ne 28, 3), (270, .aload_n 0, 1), (271, .getfield 122, 3), (274, .aload_n 0, 1), (275, .getfield 291, 3), (278, .iload 5, 2), (280, .iadd, 1), (281, .aload_n 0, 1), (282, .getfield 125, 3), (285, .iload 5, 2), (287, .iaload, 1), (288, .iastore, 1), (289, .iinc 5 1, 3), (292, .goto (-35), 3), (295, .aload_n 0, 1), (296, .dup, 1), (297, .getfield 291, 3), (300, .iload_n 3, 1), (301, .ifCond .eq 7, 3), (304, .iconst 0, 1), (305, .goto 7, 3), (308, .aload_n 0, 1), (309, .getfield 225, 3), (312, .iadd, 1), (313, .putfield 291, 3), (316, .aload_n 0, 1), (317, .dup, 1), (318, .getfield 297, 3), (321, .iload_n 3, 1), (322, .ifCond .ne 10, 3), (325, .aload_n 0, 1), (326, .getfield 159, 3), (329, .ifCond .eq 7, 3), (332, .iconst 0, 1), (333, .goto 4, 3), (336, .iconst 1, 1), (337, .iadd, 1), (338, .putfield 297, 3), (341, .return_, 1)]
def am_m144 : aM := (yX11_attribute, cX11_attribute, 6, none, 11, [], 1, am_i144)
theorem am_k144 : am_okM am_m144 := ⟨by decide +kernel, am_inP 1381 (by decide +kernel) rfl, am_inP 12 (by decide +kernel) rfl, rfl, by decide, by decide +kernel, by decide +kernel⟩
set_option maxRecDepth 100000 in
theorem am_d144 : am_okI am_m144 := by unfold am_okI; decide +kernel
def am_i145 : List (Nat × Instr × Nat) := [(0, .iconst 0, 1), (1, .istore_n 3, 1), (2, .iload_n 3, 1), (3, .aload_n 0, 1), (4, .getfield 297, 3), (7, .if_icmp .ge 31, 3), (10, .aload_n 0, 1), (11, .getfield 92, 3), (14, .iload_n 3, 1), (15, .iaload, 1), (16, .iload_n 1, 1), (17, .if_icmp .ne 15, 3), (20, .aload_n 0, 1), (21, .getfield 95, 3), (24, .iload_n 3, 1), (25, .iaload, 1), (26, .iload_n 2, 1), (27, .if_icmp .ne 5, 3), (30, .iload_n 3, 1), (31, .ireturn, 1), (32, .iinc 3 1, 3), (35, .goto (-33), 3), (38, .iconst (-1), 1), (39, .ireturn, 1)]
def am_m145 : aM := (yX11_declared, cX11_declared, 4, some .int, 11, [], 2, am_i145)
theorem am_k145 : am_okM am_m145 := ⟨by decide +kernel, am_inP 1385 (by decide +kernel) rfl, am_inP 12 (by decide +kernel) rfl, rfl, by decide, by decide +kernel, by decide +kernel⟩
set_option maxRecDepth 100000 in
theorem am_d145 : am_okI am_m145 := by unfold am_okI; decide +kernel
def am_i146 : List (Nat × Instr × Nat) := [(0, .aload_n 0, 1), (1, .invokevirtual 202, 3), (4, .istore_n 1, 1), (5, .aload_n 0, 1), (6, .invokevirtual 240, 3), (9, .iconst (-1), 1), (10, .istore_n 2, 1), (11, .iconst 0, 1), (12, .istore_n 3, 1), (13, .aload_n 0, 1), (14, .invokevirtual 182, 3), (17, .bipush 69, 2), (19, .if_icmp .ne 15, 3), (22, .aload_n 0, 1), (23, .ldc2_w 318, 3), (26, .invokevirtual 210, 3), (29, .iconst 1, 1), (30, .istore_n 2, 1), (31, .goto 67, 3), (34, .aload_n 0, 1), (35, .invokevirtual 182, 3), (38, .bipush 65, 2), (40, .if_icmp .ne 15, 3), (43, .aload_n 0, 1), (44, .ldc2_w 320, 3), (47, .invokevirtual 210, 3), (50, .iconst 2, 1), (51, .istore_n 2, 1), (52, .goto 46, 3), (55, .aload_n 0, 1), (56, .bipush 40, 2), (58, .invokevirtual 189, 3), (61, .aload_n 0, 1), (62, .invokevirtual 195, 3), (65, .pop, 1), (66, .aload_n 0, 1), (67, .invokevirtual 182, 3), (70, .bipush 35, 2), (72, .if_icmp .ne 7, 3), (75, .iconst 3, 1), (76, .goto 4, 3), (79, .iconst 4, 1), (80, .istore_n 2, 1), (81, .iload_n 2, 1), (82, .iconst 3, 1), (83, .if_icmp .ne 11, 3), (86, .aload_n 0, 1), (87, .invokevirtual 322, 3), (90, .istore_n 3, 1), (91, .goto 7, 3), (94, .aload_n 0, 1), (95, .invokevirtual 325, 3), (98, .aload_n 0, 1), (99, .getfield 159, 3), (102, .ifCond .eq 4, 3), (105, .return_, 1), (106, .aload_n 0, 1), (107, .getfield 53, 3), (110, .iload_n 1, 1), (111, .iaload, 1), (112, .ifCond .eq 16, 3), (115, .aload_n 0, 1), (116, .dup, 1), (117, .getfield 328, 3), (120, .sipush 1024, 3), (123, .ior, 1), (124, .putfield 328, 3), (127, .return_, 1), (128, .aload_n 0, 1), (129, .getfield 53, 3), (132, .iload_n 1, 1), (133, .iload_n 2, 1), (134, .iastore, 1), (135, .aload_n 0, 1), (136, .getfield 56, 3), (139, .iload_n 1, 1), (140, .iload_n 3, 1), (141, .iastore, 1), (142, .aload_n 0, 1), (143, .getfield 65, 3), (146, .iload_n 1, 1), (147, .aload_n 0, 1), (148, .getfield 65, 3), (151, .bipush 26, 2), (153, .iaload, 1), (154, .iastore, 1), (155, .aload_n 0, 1), (156, .getfield 68, 3), (159, .iload_n 1, 1), (160, .aload_n 0, 1), (161, .getfield 80, 3), (164, .iconst 0, 1), (165, .iaload, 1), (166, .iastore, 1), (167, .aload_n 0, 1), (168, .getfield 71, 3), (171, .iload_n 1, 1), (172, .aload_n 0, 1), (173, .getfield 83, 3), (176, .iconst 0, 1), (177, .iaload, 1), (178, .iastore, 1), (179, .aload_n 0, 1), (180, .getfield 74, 3), (183, .iload_n 1, 1), (184, .aload_n 0, 1), (185, .getfield 86, 3), (188, .iconst 0, 1), (189, .baload, 1), (190, .bastore, 1), (191, .iconst 0, 1), (192, .istore 4, 2), (194, .iload 4, 2), (196, .bipush 30, 2), (198, .if_icmp .ge 60, 3), (201, .iload_n 2, 1), (202, .iconst 4, 1), (203, .if_icmp .ne 55, 3), (206, .aload_n 0, 1), (207, .getfield 59, 3), (210, .bipush 30, 2), (212, .iload_n 1, 1), (213, .imul, 1), (214, .iload 4, 2), (216, .iadd, 1), (217, .aload_n 0, 1), (218, .getfield 59, 3), (221, .sipush 780, 3), (224, .iload 4, 2), (226, .iadd, 1), (227, .iaload, 1), (228, .iastore, 1), (229, .aload_n 0, 1), (230, .getfield 62, 3), (233, .bipush 30, 2), (235, .iload_n 1, 1), (236, .imul, 1), (237, .iload 4, 2), (239, .iadd, 1), (240, .aload_n 0, 1), (241, .getfield 62, 3), (244, .sipush 780, 3), (247, .iload 4, 2), (249, .iadd, 1), (250, .iaload, 1), (251, .iastore, 1), (252, .iinc 4 1, 3), (255, .goto (-61), 3), (258, .iload_n 2, 1), (259, .iconst 4, 1), (260, .if_icmp .ne 23, 3), (263, .aload_n 0, 1), (264, .iload_n 1, 1), (265, .invokevirtual 331, 3), (268, .ifCond .ne 15, 3), (271, .aload_n 0, 1), (272, .dup, 1), (273, .getfield 328, 3), (276, .sipush 512, 3), (279, .ior, 1), (280, .putfield 328, 3), (283, .return_, 1)]
def am_m146 : aM := (yX11_model, cX11_model, 5, none, 11, [], 0, am_i146)
theorem am_k146 : am_okM am_m146 := ⟨by decide +kernel, am_inP 1434 (by decide +kernel) rfl, am_inP 12 (by decide +kernel) rfl, rfl, by decide, by decide +kernel, by decide +kernel⟩
set_option maxRecDepth 100000 in
theorem am_d146 : am_okI am_m146 := by unfold am_okI; decide +kernel
def am_i147 : List (Nat × Instr × Nat) := [(0, .aload_n 0, 1), (1, .ldc2_w 334, 3), (4, .invokevirtual 210, 3), (7, .aload_n 0, 1), (8, .invokevirtual 195, 3), (11, .pop, 1), (12, .iconst 0, 1), (13, .istore_n 1, 1), (14, .iconst 0, 1), (15, .istore_n 2, 1), (16, .aload_n 0, 1), (17, .invokevirtual 182, 3), (20, .bipush 124, 2), (22, .if_icmp .ne 31, 3), (25, .aload_n 0, 1), (26, .invokevirtual 186, 3), (29, .aload_n 0, 1), (30, .invokevirtual 195, 3), (33, .pop, 1), (34, .iload_n 1, 1), (35, .iconst 1, 1), (36, .aload_n 0, 1), (37, .invokevirtual 202, 3), (40, .ishl, 1), (41, .ior, 1), (42, .istore_n 1, 1), (43, .aload_n 0, 1), (44, .invokevirtual 195, 3), (47, .pop, 1), (48, .iconst 1, 1), (49, .istore_n 2, 1), (50, .goto (-34), 3), (53, .aload_n 0, 1), (54, .bipush 41, 2), (56, .invokevirtual 189, 3), (59, .iload_n 2, 1), (60, .ifCond .ne 12, 3), (63, .aload_n 0, 1), (64, .invokevirtual 182, 3), (67, .bipush 42, 2), (69, .if_icmp .ne 9, 3), (72, .aload_n 0, 1), (73, .bipush 42, 2), (75, .invokevirtual 189, 3), (78, .iload_n 1, 1), (79, .ireturn, 1)]
def am_m147 : aM := (yX11_mixture, cX11_mixture, 3, some .int, 11, [], 0, am_i147)
theorem am_k147 : am_okM am_m147 := ⟨by decide +kernel, am_inP 1440 (by decide +kernel) rfl, am_inP 12 (by decide +kernel) rfl, rfl, by decide, by decide +kernel, by decide +kernel⟩
set_option maxRecDepth 100000 in
theorem am_d147 : am_okI am_m147 := by unfold am_okI; decide +kernel
def am_i148 : List (Nat × Instr × Nat) := [(0, .aload_n 0, 1), (1, .invokevirtual 182, 3), (4, .istore_n 1, 1), (5, .iload_n 1, 1), (6, .bipush 63, 2), (8, .if_icmp .eq 16, 3), (11, .iload_n 1, 1), (12, .bipush 42, 2), (14, .if_icmp .eq 10, 3), (17, .iload_n 1, 1), (18, .bipush 43, 2), (20, .if_icmp .eq 4, 3), (23, .return_, 1), (24, .aload_n 0, 1), (25, .invokevirtual 186, 3), (28, .aload_n 0, 1), (29, .aload_n 0, 1), (30, .getfield 336, 3), (33, .ifCond .ne 9, 3), (36, .iload_n 1, 1), (37, .bipush 43, 2), (39, .if_icmp .eq 7, 3), (42, .iconst 1, 1), (43, .goto 4, 3), (46, .iconst 0, 1), (47, .putfield 336, 3), (50, .iconst 0, 1), (51, .istore_n 2, 1), (52, .iload_n 2, 1), (53, .bipush 30, 2), (55, .if_icmp .ge 48, 3), (58, .iload_n 1, 1), (59, .bipush 63, 2), (61, .if_icmp .eq 42, 3), (64, .aload_n 0, 1), (65, .getfield 62, 3), (68, .sipush 780, 3), (71, .iload_n 2, 1), (72, .iadd, 1), (73, .dup2, 1), (74, .iaload, 1), (75, .aload_n 0, 1), (76, .getfield 339, 3), (79, .iload_n 2, 1), (80, .ishr, 1), (81, .iconst 1, 1), (82, .iand, 1), (83, .iconst 1, 1), (84, .if_icmp .ne 10, 3), (87, .aload_n 0, 1), (88, .getfield 342, 3), (91, .goto 4, 3), (94, .iconst 0, 1), (95, .ior, 1), (96, .iastore, 1), (97, .iinc 2 1, 3), (100, .goto (-48), 3), (103, .return_, 1)]
def am_m148 : aM := (yX11_suffix, cX11_suffix, 3, none, 11, [], 0, am_i148)
theorem am_k148 : am_okM am_m148 := ⟨by decide +kernel, am_inP 1461 (by decide +kernel) rfl, am_inP 12 (by decide +kernel) rfl, rfl, by decide, by decide +kernel, by decide +kernel⟩
set_option maxRecDepth 100000 in
theorem am_d148 : am_okI am_m148 := by unfold am_okI; decide +kernel
def am_i149 : List (Nat × Instr × Nat) := [(0, .aload_n 0, 1), (1, .getfield 89, 3), (4, .iload_n 1, 1), (5, .baload, 1), (6, .ifCond .ne 36, 3), (9, .aload_n 0, 1), (10, .getfield 80, 3), (13, .iload_n 1, 1), (14, .aload_n 0, 1), (15, .getfield 342, 3), (18, .iastore, 1), (19, .aload_n 0, 1), (20, .getfield 83, 3), (23, .iload_n 1, 1), (24, .aload_n 0, 1), (25, .getfield 339, 3), (28, .iastore, 1), (29, .aload_n 0, 1), (30, .getfield 86, 3), (33, .iload_n 1, 1), (34, .aload_n 0, 1), (35, .getfield 336, 3), (38, .bastore, 1), (39, .goto 199, 3), (42, .aload_n 0, 1), (43, .getfield 77, 3), (46, .iload_n 1, 1), (47, .iaload, 1), (48, .iconst 1, 1), (49, .if_icmp .ne 59, 3), (52, .aload_n 0, 1), (53, .getfield 80, 3), (56, .iload_n 1, 1), (57, .dup2, 1), (58, .iaload, 1), (59, .aload_n 0, 1), (60, .getfield 342, 3), (63, .ior, 1), (64, .iastore, 1), (65, .aload_n 0, 1), (66, .getfield 83, 3), (69, .iload_n 1, 1), (70, .dup2, 1), (71, .iaload, 1), (72, .aload_n 0, 1), (73, .getfield 339, 3), (76, .ior, 1), (77, .iastore, 1), (78, .aload_n 0, 1), (79, .getfield 86, 3), (82, .iload_n 1, 1), (83, .aload_n 0, 1), (84, .getfield 86, 3), (87, .iload_n 1, 1), (88, .baload, 1), (89, .ifCond .ne 10, 3), (92, .aload_n 0, 1), (93, .getfield 336, 3), (96, .ifCond .eq 7, 3), (99, .iconst 1, 1), (100, .goto 4, 3), (103, .iconst 0, 1), (104, .bastore, 1), (105, .goto 133, 3), (108, .iconst 0, 1), (109, .istore_n 2, 1), (110, .iload_n 2, 1), (111, .bipush 30, 2), (113, .if_icmp .ge 44, 3), (116, .aload_n 0, 1), (117, .getfield 62, 3), (120, .sipush 780, 3), (123, .iload_n 2, 1), (124, .iadd, 1), (125, .dup2, 1), (126, .iaload, 1), (127, .aload_n 0, 1), (128, .getfield 83, 3), (131, .iload_n 1, 1), (132, .iaload, 1), (133, .iload_n 2, 1), (134, .ishr, 1), (135, .iconst 1, 1), (136, .iand, 1), (137, .iconst 1, 1), (138, .if_icmp .ne 10, 3), (141, .aload_n 0, 1), (142, .getfield 342, 3), (145, .goto 4, 3), (148, .iconst 0, 1), (149, .ior, 1), (150, .iastore, 1), (151, .iinc 2 1, 3), (154, .goto (-44), 3), (157, .aload_n 0, 1), (158, .getfield 80, 3), (161, .iload_n 1, 1), (162, .dup2, 1), (163, .iaload, 1), (164, .aload_n 0, 1), (165, .getfield 86, 3), (168, .iload_n 1, 1), (169, .baload, 1), (170, .ifCond .eq 10, 3), (173, .aload_n 0, 1), (174, .getfield 342, 3), (177, .goto 4, 3), (180, .iconst 0, 1), (181, .ior, 1), (182, .iastore, 1), (183, .aload_n 0, 1), (184, .getfield 83, 3), (187, .iload_n 1, 1), (188, .aload_n 0, 1), (189, .getfield 339, 3), (192, .aload_n 0, 1), (193, .getfield 336, 3), (196, .ifCond .eq 12, 3), (199, .aload_n 0, 1), (200, .getfield 83, 3), (203, .iload_n 1, 1), (204, .iaload, 1), (205, .goto 4, 3), (208, .iconst 0, 1), (209, .ior, 1), (210, .iastore, 1), (211, .aload_n 0, 1), (212, .getfield 86, 3), (215, .iload_n 1, 1), (216, .aload_n 0, 1), (217, .getfield 86, 3), (220, .iload_n 1, 1), (221, .baload, 1), (222, .ifCond .eq 14, 3), (225, .aload_n 0, 1), (226, .getfield 336, 3), (229, .ifCond .eq 7, 3), (232, .iconst 1, 1), (233, .goto 4, 3), (236, .iconst 0, 1), (237, .bastore, 1), (238, .aload_n 0, 1), (239, .getfield 89, 3), (242, .iload_n 1, 1), (243, .iconst 1, 1), (244, .bastore, 1), (245, .return_, 1)]
def am_m149 : aM := (yX11_combine, cX11_combine, 3, none, 11, [], 1, am_i149)
theorem am_k149 : am_okM am_m149 := ⟨by decide +kernel, am_inP 1465 (by decide +kernel) rfl, am_inP 12 (by decide +kernel) rfl, rfl, by decide, by decide +kernel, by decide +kernel⟩
set_option maxRecDepth 100000 in
theorem am_d149 : am_okI am_m149 := by unfold am_okI; decide +kernel
def am_i150 : List (Nat × Instr × Nat) := [(0, .aload_n 0, 1), (1, .getfield 77, 3), (4, .iload_n 1, 1), (5, .iconst 0, 1), (6, .iastore, 1), (7, .aload_n 0, 1), (8, .getfield 89, 3), (11, .iload_n 1, 1), (12, .iconst 0, 1), (13, .bastore, 1), (14, .return_, 1)]
def am_m150 : aM := (yX11_openGroup, cX11_openGroup, 2, none, 11, [], 1, am_i150)
theorem am_k150 : am_okM am_m150 := ⟨by decide +kernel, am_inP 1449 (by decide +kernel) rfl, am_inP 12 (by decide +kernel) rfl, rfl, by decide, by decide +kernel, by decide +kernel⟩
set_option maxRecDepth 100000 in
theorem am_d150 : am_okI am_m150 := by unfold am_okI; decide +kernel
def am_i151 : List (Nat × Instr × Nat) := [(0, .aload_n 0, 1), (1, .getfield 65, 3), (4, .bipush 26, 2), (6, .iaload, 1), (7, .istore_n 2, 1), (8, .iload_n 2, 1), (9, .bipush 30, 2), (11, .if_icmp .ne 9, 3), (14, .aload_n 0, 1), (15, .iconst 2, 1), (16, .invokevirtual 165, 3), (19, .return_, 1), (20, .aload_n 0, 1), (21, .getfield 59, 3), (24, .sipush 780, 3), (27, .iload_n 2, 1), (28, .iadd, 1), (29, .iload_n 1, 1), (30, .iastore, 1), (31, .aload_n 0, 1), (32, .iconst 1, 1), (33, .iload_n 2, 1), (34, .ishl, 1), (35, .putfield 342, 3), (38, .aload_n 0, 1), (39, .iconst 1, 1), (40, .iload_n 2, 1), (41, .ishl, 1), (42, .putfield 339, 3), (45, .aload_n 0, 1), (46, .iconst 0, 1), (47, .putfield 336, 3), (50, .aload_n 0, 1), (51, .getfield 65, 3), (54, .bipush 26, 2), (56, .dup2, 1), (57, .iaload, 1), (58, .iconst 1, 1), (59, .iadd, 1), (60, .iastore, 1), (61, .return_, 1)]
def am_m151 : aM := (yX11_placeOf, cX11_placeOf, 3, none, 11, [], 1, am_i151)
theorem am_k151 : am_okM am_m151 := ⟨by decide +kernel, am_inP 1453 (by decide +kernel) rfl, am_inP 12 (by decide +kernel) rfl, rfl, by decide, by decide +kernel, by decide +kernel⟩
set_option maxRecDepth 100000 in
theorem am_d151 : am_okI am_m151 := by unfold am_okI; decide +kernel
def am_i152 : List (Nat × Instr × Nat) := [(0, .iconst 1, 1), (1, .istore_n 1, 1), (2, .aload_n 0, 1), (3, .getfield 65, 3), (6, .bipush 26, 2), (8, .iconst 0, 1), (9, .iastore, 1), (10, .sipush 780, 3), (13, .istore_n 2, 1), (14, .iload_n 2, 1), (15, .sipush 810, 3), (18, .if_icmp .ge 16, 3), (21, .aload_n 0, 1), (22, .getfield 62, 3), (25, .iload_n 2, 1), (26, .iconst 0, 1), (27, .iastore, 1), (28, .iinc 2 1, 3), (31, .goto (-17), 3), (34, .aload_n 0, 1), (35, .iconst 1, 1), (36, .invokevirtual 345, 3), (39, .iload_n 1, 1), (40, .ifCond .le 86, 3), (43, .aload_n 0, 1), (44, .getfield 159, 3), (47, .ifCond .ne 79, 3), (50, .aload_n 0, 1), (51, .invokevirtual 195, 3), (54, .pop, 1), (55, .aload_n 0, 1), (56, .invokevirtual 182, 3), (59, .bipush 40, 2), (61, .if_icmp .ne 39, 3), (64, .aload_n 0, 1), (65, .invokevirtual 186, 3), (68, .iload_n 1, 1), (69, .bipush 8, 2), (71, .if_icmp .ne 11, 3), (74, .aload_n 0, 1), (75, .iconst 2, 1), (76, .invokevirtual 165, 3), (79, .goto 6, 3), (82, .iinc 1 1, 3), (85, .aload_n 0, 1), (86, .getfield 159, 3), (89, .ifCond .ne (-50), 3), (92, .aload_n 0, 1), (93, .iload_n 1, 1), (94, .invokevirtual 345, 3), (97, .goto (-58), 3), (100, .aload_n 0, 1), (101, .invokevirtual 202, 3), (104, .istore_n 2, 1), (105, .aload_n 0, 1), (106, .getfield 159, 3), (109, .ifCond .ne 8, 3), (112, .aload_n 0, 1), (113, .iload_n 2, 1), (114, .invokevirtual 348, 3), (117, .aload_n 0, 1), (118, .iload_n 1, 1), (119, .invokevirtual 351, 3), (122, .istore_n 1, 1), (123, .goto (-84), 3), (126, .aload_n 0, 1), (127, .getfield 80, 3), (130, .iconst 0, 1), (131, .aload_n 0, 1), (132, .getfield 342, 3), (135, .iastore, 1), (136, .aload_n 0, 1), (137, .getfield 83, 3), (140, .iconst 0, 1), (141, .aload_n 0, 1), (142, .getfield 339, 3), (145, .iastore, 1), (146, .aload_n 0, 1), (147, .getfield 86, 3), (150, .iconst 0, 1), (151, .aload_n 0, 1), (152, .getfield 336, 3), (155, .bastore, 1), (156, .return_, 1)]
def am_m152 : aM := (yX11_group, cX11_group, 3, none, 11, [], 0, am_i152)
theorem am_k152 : am_okM am_m152 := ⟨by decide +kernel, am_inP 1445 (by decide +kernel) rfl, am_inP 12 (by decide +kernel) rfl, rfl, by decide, by decide +kernel, by decide +kernel⟩
set_option maxRecDepth 100000 in
theorem am_d152 : am_okI am_m152 := by unfold am_okI; decide +kernel
def am_i153 : List (Nat × Instr × Nat) := [(0, .iload_n 1, 1), (1, .istore_n 2, 1), (2, .iconst 1, 1), (3, .istore_n 3, 1), (4, .iload_n 3, 1), (5, .ifCond .eq 173, 3), (8, .aload_n 0, 1), (9, .getfield 159, 3), (12, .ifCond .ne 166, 3), (15, .aload_n 0, 1), (16, .invokevirtual 354, 3), (19, .iload_n 2, 1), (20, .ifCond .ne 5, 3), (23, .iconst 0, 1), (24, .ireturn, 1), (25, .aload_n 0, 1), (26, .iload_n 2, 1), (27, .invokevirtual 357, 3), (30, .aload_n 0, 1), (31, .invokevirtual 195, 3), (34, .pop, 1), (35, .aload_n 0, 1), (36, .invokevirtual 182, 3), (39, .istore 4, 2), (41, .iload 4, 2), (43, .bipush 41, 2), (45, .if_icmp .ne 7, 3), (48, .iconst 1, 1), (49, .goto 4, 3), (52, .iconst 0, 1), (53, .istore_n 3, 1), (54, .iload 4, 2), (56, .bipush 124, 2), (58, .if_icmp .eq 10, 3), (61, .iload 4, 2), (63, .bipush 44, 2), (65, .if_icmp .ne 53, 3), (68, .iload 4, 2), (70, .bipush 124, 2), (72, .if_icmp .ne 7, 3), (75, .iconst 1, 1), (76, .goto 4, 3), (79, .iconst 2, 1), (80, .istore 5, 2), (82, .aload_n 0, 1), (83, .getfield 77, 3), (86, .iload_n 2, 1), (87, .iaload, 1), (88, .ifCond .eq 19, 3), (91, .aload_n 0, 1), (92, .getfield 77, 3), (95, .iload_n 2, 1), (96, .iaload, 1), (97, .iload 5, 2), (99, .if_icmp .eq 8, 3), (102, .aload_n 0, 1), (103, .iconst 1, 1), (104, .invokevirtual 165, 3), (107, .aload_n 0, 1), (108, .getfield 77, 3), (111, .iload_n 2, 1), (112, .iload 5, 2), (114, .iastore, 1), (115, .goto 12, 3), (118, .iload_n 3, 1), (119, .ifCond .ne 8, 3), (122, .aload_n 0, 1), (123, .iconst 1, 1), (124, .invokevirtual 165, 3), (127, .aload_n 0, 1), (128, .getfield 159, 3), (131, .ifCond .ne 7, 3), (134, .aload_n 0, 1), (135, .invokevirtual 186, 3), (138, .iload_n 3, 1), (139, .ifCond .eq 36, 3), (142, .aload_n 0, 1), (143, .aload_n 0, 1), (144, .getfield 80, 3), (147, .iload_n 2, 1), (148, .iaload, 1), (149, .putfield 342, 3), (152, .aload_n 0, 1), (153, .aload_n 0, 1), (154, .getfield 83, 3), (157, .iload_n 2, 1), (158, .iaload, 1), (159, .putfield 339, 3), (162, .aload_n 0, 1), (163, .aload_n 0, 1), (164, .getfield 86, 3), (167, .iload_n 2, 1), (168, .baload, 1), (169, .putfield 336, 3), (172, .iinc 2 (-1), 3), (175, .goto (-171), 3), (178, .iload_n 2, 1), (179, .ireturn, 1)]
def am_m153 : aM := (yX11_behindPart, cX11_behindPart, 6, some .int, 11, [], 1, am_i153)
theorem am_k153 : am_okM am_m153 := ⟨by decide +kernel, am_inP 1457 (by decide +kernel) rfl, am_inP 12 (by decide +kernel) rfl, rfl, by decide, by decide +kernel, by decide +kernel⟩
set_option maxRecDepth 100000 in
theorem am_d153 : am_okI am_m153 := by unfold am_okI; decide +kernel
def am_i154 : List (Nat × Instr × Nat) := [(0, .iconst 0, 1), (1, .istore_n 3, 1), (2, .iconst 0, 1), (3, .istore 4, 2), (5, .iload 4, 2), (7, .bipush 30, 2), (9, .if_icmp .ge 53, 3), (12, .iload_n 2, 1), (13, .iload 4, 2), (15, .ishr, 1), (16, .iconst 1, 1), (17, .iand, 1), (18, .iconst 1, 1), (19, .if_icmp .ne 20, 3), (22, .iconst 1, 1), (23, .aload_n 0, 1), (24, .getfield 59, 3), (27, .bipush 30, 2), (29, .iload_n 1, 1), (30, .imul, 1), (31, .iload 4, 2), (33, .iadd, 1), (34, .iaload, 1), (35, .ishl, 1), (36, .goto 4, 3), (39, .iconst 0, 1), (40, .istore 5, 2), (42, .iload_n 3, 1), (43, .iload 5, 2), (45, .iand, 1), (46, .ifCond .eq 5, 3), (49, .iconst 0, 1), (50, .ireturn, 1), (51, .iload_n 3, 1), (52, .iload 5, 2), (54, .ior, 1), (55, .istore_n 3, 1), (56, .iinc 4 1, 3), (59, .goto (-54), 3), (62, .iconst 1, 1), (63, .ireturn, 1)]
def am_m154 : aM := (yX11_apart, cX11_apart, 6, some .boolean, 11, [], 2, am_i154)
theorem am_k154 : am_okM am_m154 := ⟨by decide +kernel, am_inP 1473 (by decide +kernel) rfl, am_inP 12 (by decide +kernel) rfl, rfl, by decide, by decide +kernel, by decide +kernel⟩
set_option maxRecDepth 100000 in
theorem am_d154 : am_okI am_m154 := by unfold am_okI; decide +kernel
end
section
def am_i155 : List (Nat × Instr × Nat) := [(0, .aload_n 0, 1), (1, .iload_n 1, 1), (2, .aload_n 0, 1), (3, .getfield 68, 3), (6, .iload_n 1, 1), (7, .iaload, 1), (8, .invokevirtual 360, 3), (11, .istore_n 2, 1), (12, .iconst 0, 1), (13, .istore_n 3, 1), (14, .iload_n 3, 1), (15, .aload_n 0, 1), (16, .getfield 65, 3), (19, .iload_n 1, 1), (20, .iaload, 1), (21, .if_icmp .ge 38, 3), (24, .iload_n 2, 1), (25, .ifCond .eq 26, 3), (28, .aload_n 0, 1), (29, .iload_n 1, 1), (30, .aload_n 0, 1), (31, .getfield 62, 3), (34, .bipush 30, 2), (36, .iload_n 1, 1), (37, .imul, 1), (38, .iload_n 3, 1), (39, .iadd, 1), (40, .iaload, 1), (41, .invokevirtual 360, 3), (44, .ifCond .eq 7, 3), (47, .iconst 1, 1), (48, .goto 4, 3), (51, .iconst 0, 1), (52, .istore_n 2, 1), (53, .iinc 3 1, 3), (56, .goto (-42), 3), (59, .iload_n 2, 1), (60, .ireturn, 1)]
def am_m155 : aM := (yX11_plain, cX11_plain, 4, some .boolean, 11, [], 1, am_i155)
theorem am_k155 : am_okM am_m155 := ⟨by decide +kernel, am_inP 1469 (by decide +kernel) rfl, am_inP 12 (by decide +kernel) rfl, rfl, by decide, by decide +kernel, by decide +kernel⟩
set_option maxRecDepth 100000 in
theorem am_d155 : am_okI am_m155 := by unfold am_okI; decide +kernel
def am_i156 : List (Nat × Instr × Nat) := [(0, .aload_n 0, 1), (1, .getfield 159, 3), (4, .ifCond .ne 18, 3), (7, .aload_n 0, 1), (8, .getfield 364, 3), (11, .sipush 200, 3), (14, .if_icmp .ne 8, 3), (17, .aload_n 0, 1), (18, .iconst 2, 1), (19, .invokevirtual 165, 3), (22, .aload_n 0, 1), (23, .getfield 159, 3), (26, .ifCond .eq 4, 3), (29, .return_, 1), (30, .aload_n 0, 1), (31, .getfield 128, 3), (34, .aload_n 0, 1), (35, .getfield 364, 3), (38, .iload_n 1, 1), (39, .iastore, 1), (40, .aload_n 0, 1), (41, .getfield 131, 3), (44, .aload_n 0, 1), (45, .getfield 364, 3), (48, .iload_n 2, 1), (49, .iastore, 1), (50, .aload_n 0, 1), (51, .getfield 134, 3), (54, .aload_n 0, 1), (55, .getfield 364, 3), (58, .aload_n 0, 1), (59, .getfield 367, 3), (62, .iastore, 1), (63, .aload_n 0, 1), (64, .getfield 137, 3), (67, .aload_n 0, 1), (68, .getfield 364, 3), (71, .iconst 0, 1), (72, .iastore, 1), (73, .aload_n 0, 1), (74, .getfield 140, 3), (77, .aload_n 0, 1), (78, .getfield 364, 3), (81, .iconst 0, 1), (82, .iastore, 1), (83, .aload_n 0, 1), (84, .dup, 1), (85, .getfield 364, 3), (88, .iconst 1, 1), (89, .iadd, 1), (90, .putfield 364, 3), (93, .return_, 1)]
def am_m156 : aM := (yX11_happens, cX11_happens, 3, none, 11, [], 2, am_i156)
theorem am_k156 : am_okM am_m156 := ⟨by decide +kernel, am_inP 1490 (by decide +kernel) rfl, am_inP 12 (by decide +kernel) rfl, rfl, by decide, by decide +kernel, by decide +kernel⟩
set_option maxRecDepth 100000 in
theorem am_d156 : am_okI am_m156 := by unfold am_okI; decide +kernel
def am_i157 : List (Nat × Instr × Nat) := [(0, .aload_n 0, 1), (1, .getfield 159, 3), (4, .ifCond .ne 18, 3), (7, .aload_n 0, 1), (8, .getfield 367, 3), (11, .sipush 2000, 3), (14, .if_icmp .ne 8, 3), (17, .aload_n 0, 1), (18, .iconst 2, 1), (19, .invokevirtual 165, 3), (22, .aload_n 0, 1), (23, .getfield 159, 3), (26, .ifCond .eq 4, 3), (29, .return_, 1), (30, .aload_n 0, 1), (31, .getfield 143, 3), (34, .aload_n 0, 1), (35, .getfield 367, 3), (38, .iload_n 1, 1), (39, .iastore, 1), (40, .aload_n 0, 1), (41, .dup, 1), (42, .getfield 367, 3), (45, .iconst 1, 1), (46, .iadd, 1), (47, .putfield 367, 3), (50, .aload_n 0, 1), (51, .getfield 137, 3), (54, .aload_n 0, 1), (55, .getfield 364, 3), (58, .iconst 1, 1), (59, .isub, 1), (60, .dup2, 1), (61, .iaload, 1), (62, .iconst 1, 1), (63, .iadd, 1), (64, .iastore, 1), (65, .return_, 1)]
def am_m157 : aM := (yX11_say, cX11_say, 2, none, 11, [], 1, am_i157)
theorem am_k157 : am_okM am_m157 := ⟨by decide +kernel, am_inP 1502 (by decide +kernel) rfl, am_inP 12 (by decide +kernel) rfl, rfl, by decide, by decide +kernel, by decide +kernel⟩
set_option maxRecDepth 100000 in
theorem am_d157 : am_okI am_m157 := by unfold am_okI; decide +kernel
def am_i158 : List (Nat × Instr × Nat) := [(0, .aload_n 0, 1), (1, .getfield 364, 3), (4, .ifCond .eq 18, 3), (7, .aload_n 0, 1), (8, .getfield 128, 3), (11, .aload_n 0, 1), (12, .getfield 364, 3), (15, .iconst 1, 1), (16, .isub, 1), (17, .iaload, 1), (18, .iconst 3, 1), (19, .if_icmp .eq 9, 3), (22, .aload_n 0, 1), (23, .iconst 3, 1), (24, .iconst 0, 1), (25, .invokevirtual 370, 3), (28, .aload_n 0, 1), (29, .iload_n 1, 1), (30, .invokevirtual 374, 3), (33, .aload_n 0, 1), (34, .getfield 41, 3), (37, .aload_n 0, 1), (38, .getfield 222, 3), (41, .iconst 1, 1), (42, .isub, 1), (43, .iaload, 1), (44, .istore_n 2, 1), (45, .aload_n 0, 1), (46, .getfield 53, 3), (49, .iload_n 2, 1), (50, .iaload, 1), (51, .iconst 1, 1), (52, .if_icmp .eq 20, 3), (55, .aload_n 0, 1), (56, .getfield 53, 3), (59, .iload_n 2, 1), (60, .iaload, 1), (61, .iconst 4, 1), (62, .if_icmp .ne 20, 3), (65, .iload_n 1, 1), (66, .invokestatic 192, 3), (69, .ifCond .ne 13, 3), (72, .aload_n 0, 1), (73, .dup, 1), (74, .getfield 328, 3), (77, .iconst 4, 1), (78, .ior, 1), (79, .putfield 328, 3), (82, .return_, 1)]
def am_m158 : aM := (yX11_textEvent, cX11_textEvent, 3, none, 11, [], 1, am_i158)
theorem am_k158 : am_okM am_m158 := ⟨by decide +kernel, am_inP 1534 (by decide +kernel) rfl, am_inP 12 (by decide +kernel) rfl, rfl, by decide, by decide +kernel, by decide +kernel⟩
set_option maxRecDepth 100000 in
theorem am_d158 : am_okI am_m158 := by unfold am_okI; decide +kernel
def am_i159 : List (Nat × Instr × Nat) := [(0, .aload_n 0, 1), (1, .getfield 225, 3), (4, .ifCond .le 7, 3), (7, .iconst 1, 1), (8, .goto 4, 3), (11, .iconst 0, 1), (12, .istore_n 1, 1), (13, .iconst 0, 1), (14, .istore_n 2, 1), (15, .iload_n 2, 1), (16, .aload_n 0, 1), (17, .getfield 225, 3), (20, .if_icmp .ge 31, 3), (23, .iload_n 1, 1), (24, .ifCond .eq 19, 3), (27, .aload_n 0, 1), (28, .getfield 125, 3), (31, .iload_n 2, 1), (32, .iaload, 1), (33, .invokestatic 288, 3), (36, .ifCond .eq 7, 3), (39, .iconst 1, 1), (40, .goto 4, 3), (43, .iconst 0, 1), (44, .istore_n 1, 1), (45, .iinc 2 1, 3), (48, .goto (-33), 3), (51, .iload_n 1, 1), (52, .ireturn, 1)]
def am_m159 : aM := (yX11_isToken, cX11_isToken, 3, some .boolean, 11, [], 0, am_i159)
theorem am_k159 : am_okM am_m159 := ⟨by decide +kernel, am_inP 1514 (by decide +kernel) rfl, am_inP 12 (by decide +kernel) rfl, rfl, by decide, by decide +kernel, by decide +kernel⟩
set_option maxRecDepth 100000 in
theorem am_d159 : am_okI am_m159 := by unfold am_okI; decide +kernel
def am_i160 : List (Nat × Instr × Nat) := [(0, .iload_n 2, 1), (1, .aload_n 0, 1), (2, .getfield 225, 3), (5, .if_icmp .ne 7, 3), (8, .iconst 1, 1), (9, .goto 4, 3), (12, .iconst 0, 1), (13, .istore_n 3, 1), (14, .iconst 0, 1), (15, .istore 4, 2), (17, .iload 4, 2), (19, .iload_n 2, 1), (20, .if_icmp .ge 38, 3), (23, .iload_n 3, 1), (24, .ifCond .eq 34, 3), (27, .aload_n 0, 1), (28, .getfield 122, 3), (31, .iload_n 1, 1), (32, .iload 4, 2), (34, .iadd, 1), (35, .iaload, 1), (36, .aload_n 0, 1), (37, .getfield 125, 3), (40, .iload 4, 2), (42, .iaload, 1), (43, .if_icmp .ne 7, 3), (46, .iconst 1, 1), (47, .goto 4, 3), (50, .iconst 0, 1), (51, .istore_n 3, 1), (52, .iinc 4 1, 3), (55, .goto (-38), 3), (58, .iload_n 3, 1), (59, .ireturn, 1)]
def am_m160 : aM := (yX11_isAt, cX11_isAt, 5, some .boolean, 11, [], 2, am_i160)
theorem am_k160 : am_okM am_m160 := ⟨by decide +kernel, am_inP 1506 (by decide +kernel) rfl, am_inP 12 (by decide +kernel) rfl, rfl, by decide, by decide +kernel, by decide +kernel⟩
set_option maxRecDepth 100000 in
theorem am_d160 : am_okI am_m160 := by unfold am_okI; decide +kernel
def am_i161 : List (Nat × Instr × Nat) := [(0, .iconst 0, 1), (1, .istore_n 2, 1), (2, .aload_n 0, 1), (3, .getfield 110, 3), (6, .iload_n 1, 1), (7, .iaload, 1), (8, .istore_n 3, 1), (9, .iload_n 3, 1), (10, .aload_n 0, 1), (11, .getfield 113, 3), (14, .iload_n 1, 1), (15, .iaload, 1), (16, .if_icmp .ge 38, 3), (19, .iload_n 2, 1), (20, .ifCond .ne 22, 3), (23, .aload_n 0, 1), (24, .aload_n 0, 1), (25, .getfield 116, 3), (28, .iload_n 3, 1), (29, .iaload, 1), (30, .aload_n 0, 1), (31, .getfield 119, 3), (34, .iload_n 3, 1), (35, .iaload, 1), (36, .invokevirtual 377, 3), (39, .ifCond .eq 7, 3), (42, .iconst 1, 1), (43, .goto 4, 3), (46, .iconst 0, 1), (47, .istore_n 2, 1), (48, .iinc 3 1, 3), (51, .goto (-42), 3), (54, .iload_n 2, 1), (55, .ireturn, 1)]
def am_m161 : aM := (yX11_isListed, cX11_isListed, 4, some .boolean, 11, [], 1, am_i161)
theorem am_k161 : am_okM am_m161 := ⟨by decide +kernel, am_inP 1510 (by decide +kernel) rfl, am_inP 12 (by decide +kernel) rfl, rfl, by decide, by decide +kernel, by decide +kernel⟩
set_option maxRecDepth 100000 in
theorem am_d161 : am_okI am_m161 := by unfold am_okI; decide +kernel
def am_i162 : List (Nat × Instr × Nat) := [(0, .aload_n 0, 1), (1, .iconst 2, 1), (2, .bipush 97, 2), (4, .iload_n 2, 1), (5, .iadd, 1), (6, .invokevirtual 370, 3), (9, .iconst 0, 1), (10, .istore_n 3, 1), (11, .iload_n 3, 1), (12, .aload_n 0, 1), (13, .getfield 225, 3), (16, .if_icmp .ge 26, 3), (19, .aload_n 0, 1), (20, .getfield 159, 3), (23, .ifCond .ne 19, 3), (26, .aload_n 0, 1), (27, .aload_n 0, 1), (28, .getfield 125, 3), (31, .iload_n 3, 1), (32, .iaload, 1), (33, .invokevirtual 374, 3), (36, .iinc 3 1, 3), (39, .goto (-28), 3), (42, .aload_n 0, 1), (43, .getfield 159, 3), (46, .ifCond .eq 4, 3), (49, .return_, 1), (50, .iload_n 1, 1), (51, .ifCond .ge 15, 3), (54, .aload_n 0, 1), (55, .dup, 1), (56, .getfield 328, 3), (59, .bipush 8, 2), (61, .ior, 1), (62, .putfield 328, 3), (65, .return_, 1), (66, .aload_n 0, 1), (67, .getfield 101, 3), (70, .iload_n 1, 1), (71, .iaload, 1), (72, .iconst 2, 1), (73, .if_icmp .ne 33, 3), (76, .aload_n 0, 1), (77, .aload_n 0, 1), (78, .getfield 104, 3), (81, .iload_n 1, 1), (82, .iaload, 1), (83, .aload_n 0, 1), (84, .getfield 107, 3), (87, .iload_n 1, 1), (88, .iaload, 1), (89, .invokevirtual 377, 3), (92, .ifCond .ne 14, 3), (95, .aload_n 0, 1), (96, .dup, 1), (97, .getfield 328, 3), (100, .bipush 32, 2), (102, .ior, 1), (103, .putfield 328, 3), (106, .aload_n 0, 1), (107, .getfield 225, 3), (110, .ifCond .le 18, 3), (113, .aload_n 0, 1), (114, .getfield 125, 3), (117, .iconst 0, 1), (118, .iaload, 1), (119, .bipush 97, 2), (121, .if_icmp .lt 7, 3), (124, .iconst 1, 1), (125, .goto 4, 3), (128, .iconst 0, 1), (129, .istore_n 3, 1), (130, .aload_n 0, 1), (131, .getfield 98, 3), (134, .iload_n 1, 1), (135, .iaload, 1), (136, .iconst 4, 1), (137, .if_icmp .ne 11, 3), (140, .aload_n 0, 1), (141, .iload_n 1, 1), (142, .invokevirtual 380, 3), (145, .ifCond .eq 20, 3), (148, .aload_n 0, 1), (149, .getfield 98, 3), (152, .iload_n 1, 1), (153, .iaload, 1), (154, .iconst 3, 1), (155, .if_icmp .ne 21, 3), (158, .aload_n 0, 1), (159, .invokevirtual 383, 3), (162, .ifCond .ne 14, 3), (165, .aload_n 0, 1), (166, .dup, 1), (167, .getfield 328, 3), (170, .bipush 64, 2), (172, .ior, 1), (173, .putfield 328, 3), (176, .aload_n 0, 1), (177, .getfield 98, 3), (180, .iload_n 1, 1), (181, .iaload, 1), (182, .iconst 1, 1), (183, .if_icmp .ne 26, 3), (186, .aload_n 0, 1), (187, .invokevirtual 383, 3), (190, .ifCond .eq 7, 3), (193, .iload_n 3, 1), (194, .ifCond .ne 15, 3), (197, .aload_n 0, 1), (198, .dup, 1), (199, .getfield 328, 3), (202, .sipush 128, 3), (205, .ior, 1), (206, .putfield 328, 3), (209, .aload_n 0, 1), (210, .getfield 140, 3), (213, .aload_n 0, 1), (214, .getfield 364, 3), (217, .iconst 1, 1), (218, .isub, 1), (219, .aload_n 0, 1), (220, .getfield 98, 3), (223, .iload_n 1, 1), (224, .iaload, 1), (225, .iconst 1, 1), (226, .if_icmp .eq 13, 3), (229, .aload_n 0, 1), (230, .getfield 98, 3), (233, .iload_n 1, 1), (234, .iaload, 1), (235, .iconst 2, 1), (236, .if_icmp .ne 12, 3), (239, .aload_n 0, 1), (240, .getfield 98, 3), (243, .iload_n 1, 1), (244, .iaload, 1), (245, .goto 4, 3), (248, .iconst 0, 1), (249, .iastore, 1), (250, .return_, 1)]
def am_m162 : aM := (yX11_attributeEvent, cX11_attributeEvent, 4, none, 11, [], 2, am_i162)
theorem am_k162 : am_okM am_m162 := ⟨by decide +kernel, am_inP 1498 (by decide +kernel) rfl, am_inP 12 (by decide +kernel) rfl, rfl, by decide, by decide +kernel, by decide +kernel⟩
set_option maxRecDepth 100000 in
theorem am_d162 : am_okI am_m162 := by unfold am_okI; decide +kernel
def am_i163 : List (Nat × Instr × Nat) := [(0, .aload_n 0, 1), (1, .getfield 222, 3), (4, .iconst 1, 1), (5, .isub, 1), (6, .istore_n 2, 1), (7, .aload_n 0, 1), (8, .getfield 41, 3), (11, .iload_n 2, 1), (12, .iaload, 1), (13, .istore_n 3, 1), (14, .aload_n 0, 1), (15, .getfield 53, 3), (18, .iload_n 3, 1), (19, .iaload, 1), (20, .iconst 1, 1), (21, .if_icmp .eq 26, 3), (24, .aload_n 0, 1), (25, .getfield 53, 3), (28, .iload_n 3, 1), (29, .iaload, 1), (30, .iconst 3, 1), (31, .if_icmp .ne 26, 3), (34, .aload_n 0, 1), (35, .getfield 56, 3), (38, .iload_n 3, 1), (39, .iaload, 1), (40, .iload_n 1, 1), (41, .ishr, 1), (42, .iconst 1, 1), (43, .iand, 1), (44, .ifCond .ne 13, 3), (47, .aload_n 0, 1), (48, .dup, 1), (49, .getfield 328, 3), (52, .iconst 4, 1), (53, .ior, 1), (54, .putfield 328, 3), (57, .aload_n 0, 1), (58, .getfield 53, 3), (61, .iload_n 3, 1), (62, .iaload, 1), (63, .iconst 4, 1), (64, .if_icmp .eq 4, 3), (67, .return_, 1), (68, .iconst 0, 1), (69, .istore 4, 2), (71, .iconst 0, 1), (72, .istore 5, 2), (74, .iconst 0, 1), (75, .istore 6, 2), (77, .iload 6, 2), (79, .aload_n 0, 1), (80, .getfield 65, 3), (83, .iload_n 3, 1), (84, .iaload, 1), (85, .if_icmp .ge 91, 3), (88, .aload_n 0, 1), (89, .getfield 47, 3), (92, .iload_n 2, 1), (93, .iaload, 1), (94, .iload 6, 2), (96, .ishr, 1), (97, .iconst 1, 1), (98, .iand, 1), (99, .iconst 1, 1), (100, .if_icmp .ne 23, 3), (103, .aload_n 0, 1), (104, .getfield 59, 3), (107, .bipush 30, 2), (109, .iload_n 3, 1), (110, .imul, 1), (111, .iload 6, 2), (113, .iadd, 1), (114, .iaload, 1), (115, .iload_n 1, 1), (116, .if_icmp .ne 7, 3), (119, .iconst 1, 1), (120, .goto 4, 3), (123, .iconst 0, 1), (124, .istore 7, 2), (126, .iload 4, 2), (128, .iload 7, 2), (130, .ifCond .eq 10, 3), (133, .iconst 1, 1), (134, .iload 6, 2), (136, .ishl, 1), (137, .goto 4, 3), (140, .iconst 0, 1), (141, .ior, 1), (142, .istore 4, 2), (144, .iload 5, 2), (146, .iload 7, 2), (148, .ifCond .eq 18, 3), (151, .aload_n 0, 1), (152, .getfield 62, 3), (155, .bipush 30, 2), (157, .iload_n 3, 1), (158, .imul, 1), (159, .iload 6, 2), (161, .iadd, 1), (162, .iaload, 1), (163, .goto 4, 3), (166, .iconst 0, 1), (167, .ior, 1), (168, .istore 5, 2), (170, .iinc 6 1, 3), (173, .goto (-96), 3), (176, .iload 4, 2), (178, .ifCond .ne 13, 3), (181, .aload_n 0, 1), (182, .dup, 1), (183, .getfield 328, 3), (186, .iconst 4, 1), (187, .ior, 1), (188, .putfield 328, 3), (191, .aload_n 0, 1), (192, .getfield 47, 3), (195, .iload_n 2, 1), (196, .iload 5, 2), (198, .iastore, 1), (199, .aload_n 0, 1), (200, .getfield 50, 3), (203, .iload_n 2, 1), (204, .iload 4, 2), (206, .aload_n 0, 1), (207, .getfield 71, 3), (210, .iload_n 3, 1), (211, .iaload, 1), (212, .iand, 1), (213, .ifCond .eq 7, 3), (216, .iconst 1, 1), (217, .goto 4, 3), (220, .iconst 0, 1), (221, .bastore, 1), (222, .return_, 1)]
def am_m163 : aM := (yX11_follows, cX11_follows, 8, none, 11, [], 1, am_i163)
theorem am_k163 : am_okM am_m163 := ⟨by decide +kernel, am_inP 1486 (by decide +kernel) rfl, am_inP 12 (by decide +kernel) rfl, rfl, by decide, by decide +kernel, by decide +kernel⟩
set_option maxRecDepth 100000 in
theorem am_d163 : am_okI am_m163 := by unfold am_okI; decide +kernel
def am_i164 : List (Nat × Instr × Nat) := [(0, .aload_n 0, 1), (1, .invokevirtual 202, 3), (4, .istore_n 1, 1), (5, .aload_n 0, 1), (6, .getfield 159, 3), (9, .ifCond .ne 22, 3), (12, .aload_n 0, 1), (13, .getfield 222, 3), (16, .aload_n 0, 1), (17, .getfield 179, 3), (20, .iadd, 1), (21, .bipush 16, 2), (23, .if_icmp .ne 8, 3), (26, .aload_n 0, 1), (27, .iconst 2, 1), (28, .invokevirtual 165, 3), (31, .aload_n 0, 1), (32, .getfield 159, 3), (35, .ifCond .eq 4, 3), (38, .return_, 1), (39, .aload_n 0, 1), (40, .getfield 222, 3), (43, .ifCond .le 11, 3), (46, .aload_n 0, 1), (47, .iload_n 1, 1), (48, .invokevirtual 386, 3), (51, .goto 28, 3), (54, .aload_n 0, 1), (55, .getfield 252, 3), (58, .ifCond .eq 21, 3), (61, .iload_n 1, 1), (62, .aload_n 0, 1), (63, .getfield 243, 3), (66, .if_icmp .eq 13, 3), (69, .aload_n 0, 1), (70, .dup, 1), (71, .getfield 328, 3), (74, .iconst 1, 1), (75, .ior, 1), (76, .putfield 328, 3), (79, .aload_n 0, 1), (80, .iconst 1, 1), (81, .bipush 97, 2), (83, .iload_n 1, 1), (84, .iadd, 1), (85, .invokevirtual 370, 3), (88, .aload_n 0, 1), (89, .getfield 53, 3), (92, .iload_n 1, 1), (93, .iaload, 1), (94, .ifCond .ne 13, 3), (97, .aload_n 0, 1), (98, .dup, 1), (99, .getfield 328, 3), (102, .iconst 2, 1), (103, .ior, 1), (104, .putfield 328, 3), (107, .aload_n 0, 1), (108, .getfield 41, 3), (111, .aload_n 0, 1), (112, .getfield 222, 3), (115, .iload_n 1, 1), (116, .iastore, 1), (117, .aload_n 0, 1), (118, .getfield 44, 3), (121, .aload_n 0, 1), (122, .getfield 222, 3), (125, .aload_n 0, 1), (126, .getfield 179, 3), (129, .iastore, 1), (130, .aload_n 0, 1), (131, .getfield 47, 3), (134, .aload_n 0, 1), (135, .getfield 222, 3), (138, .aload_n 0, 1), (139, .getfield 68, 3), (142, .iload_n 1, 1), (143, .iaload, 1), (144, .iastore, 1), (145, .aload_n 0, 1), (146, .getfield 50, 3), (149, .aload_n 0, 1), (150, .getfield 222, 3), (153, .aload_n 0, 1), (154, .getfield 74, 3), (157, .iload_n 1, 1), (158, .baload, 1), (159, .bastore, 1), (160, .aload_n 0, 1), (161, .dup, 1), (162, .getfield 222, 3), (165, .iconst 1, 1), (166, .iadd, 1), (167, .putfield 222, 3), (170, .iconst 0, 1), (171, .istore_n 2, 1), (172, .iconst 1, 1), (173, .istore_n 3, 1), (174, .iload_n 3, 1), (175, .ifCond .eq 64, 3), (178, .aload_n 0, 1), (179, .getfield 159, 3), (182, .ifCond .ne 57, 3), (185, .aload_n 0, 1), (186, .invokevirtual 195, 3), (189, .istore 4, 2), (191, .aload_n 0, 1), (192, .invokevirtual 182, 3), (195, .bipush 47, 2), (197, .if_icmp .eq 16, 3), (200, .aload_n 0, 1), (201, .invokevirtual 182, 3), (204, .bipush 62, 2), (206, .if_icmp .eq 7, 3), (209, .iconst 1, 1), (210, .goto 4, 3), (213, .iconst 0, 1), (214, .istore_n 3, 1), (215, .iload_n 3, 1), (216, .ifCond .eq 20, 3), (219, .iload 4, 2), (221, .ifCond .ne 8, 3), (224, .aload_n 0, 1), (225, .iconst 1, 1), (226, .invokevirtual 165, 3), (229, .aload_n 0, 1), (230, .iload_n 1, 1), (231, .iload_n 2, 1), (232, .invokevirtual 389, 3), (235, .istore_n 2, 1), (236, .goto (-62), 3), (239, .aload_n 0, 1), (240, .invokevirtual 182, 3), (243, .bipush 47, 2), (245, .if_icmp .ne 7, 3), (248, .iconst 1, 1), (249, .goto 4, 3), (252, .iconst 0, 1), (253, .istore 4, 2), (255, .iload 4, 2), (257, .ifCond .eq 7, 3), (260, .aload_n 0, 1), (261, .invokevirtual 186, 3), (264, .aload_n 0, 1), (265, .bipush 62, 2), (267, .invokevirtual 189, 3), (270, .aload_n 0, 1), (271, .iload_n 1, 1), (272, .iload_n 2, 1), (273, .invokevirtual 392, 3), (276, .iload 4, 2), (278, .ifCond .eq 7, 3), (281, .aload_n 0, 1), (282, .invokevirtual 395, 3), (285, .return_, 1)]
def am_m164 : aM := (yX11_start, cX11_start, 5, none, 11, [], 0, am_i164)
theorem am_k164 : am_okM am_m164 := ⟨by decide +kernel, am_inP 1482 (by decide +kernel) rfl, am_inP 12 (by decide +kernel) rfl, rfl, by decide, by decide +kernel, by decide +kernel⟩
set_option maxRecDepth 100000 in
theorem am_d164 : am_okI am_m164 := by unfold am_okI; decide +kernel
def am_i165 : List (Nat × Instr × Nat) := [(0, .aload_n 0, 1), (1, .invokevirtual 202, 3), (4, .istore_n 3, 1), (5, .iload_n 2, 1), (6, .iload_n 3, 1), (7, .ishr, 1), (8, .iconst 1, 1), (9, .iand, 1), (10, .iconst 1, 1), (11, .if_icmp .ne 8, 3), (14, .aload_n 0, 1), (15, .iconst 1, 1), (16, .invokevirtual 165, 3), (19, .aload_n 0, 1), (20, .invokevirtual 195, 3), (23, .pop, 1), (24, .aload_n 0, 1), (25, .bipush 61, 2), (27, .invokevirtual 189, 3), (30, .aload_n 0, 1), (31, .invokevirtual 195, 3), (34, .pop, 1), (35, .aload_n 0, 1), (36, .invokevirtual 312, 3), (39, .aload_n 0, 1), (40, .iload_n 1, 1), (41, .iload_n 3, 1), (42, .invokevirtual 300, 3), (45, .istore 4, 2), (47, .iload 4, 2), (49, .ifCond .lt 17, 3), (52, .aload_n 0, 1), (53, .getfield 98, 3), (56, .iload 4, 2), (58, .iaload, 1), (59, .ifCond .eq 7, 3), (62, .aload_n 0, 1), (63, .invokevirtual 315, 3), (66, .aload_n 0, 1), (67, .getfield 159, 3), (70, .ifCond .ne 10, 3), (73, .aload_n 0, 1), (74, .iload 4, 2), (76, .iload_n 3, 1), (77, .invokevirtual 398, 3), (80, .iload_n 2, 1), (81, .iconst 1, 1), (82, .iload_n 3, 1), (83, .ishl, 1), (84, .ior, 1), (85, .ireturn, 1)]
def am_m165 : aM := (yX11_attributeOf, cX11_attributeOf, 5, some .int, 11, [], 2, am_i165)
theorem am_k165 : am_okM am_m165 := ⟨by decide +kernel, am_inP 1494 (by decide +kernel) rfl, am_inP 12 (by decide +kernel) rfl, rfl, by decide, by decide +kernel, by decide +kernel⟩
set_option maxRecDepth 100000 in
theorem am_d165 : am_okI am_m165 := by unfold am_okI; decide +kernel
def am_i166 : List (Nat × Instr × Nat) := [(0, .iconst 0, 1), (1, .istore_n 3, 1), (2, .iload_n 3, 1), (3, .aload_n 0, 1), (4, .getfield 297, 3), (7, .if_icmp .ge 146, 3), (10, .aload_n 0, 1), (11, .getfield 159, 3), (14, .ifCond .ne 139, 3), (17, .aload_n 0, 1), (18, .getfield 92, 3), (21, .iload_n 3, 1), (22, .iaload, 1), (23, .iload_n 1, 1), (24, .if_icmp .ne 20, 3), (27, .iload_n 2, 1), (28, .aload_n 0, 1), (29, .getfield 95, 3), (32, .iload_n 3, 1), (33, .iaload, 1), (34, .ishr, 1), (35, .iconst 1, 1), (36, .iand, 1), (37, .ifCond .ne 7, 3), (40, .iconst 1, 1), (41, .goto 4, 3), (44, .iconst 0, 1), (45, .istore 4, 2), (47, .iload 4, 2), (49, .ifCond .eq 23, 3), (52, .aload_n 0, 1), (53, .getfield 101, 3), (56, .iload_n 3, 1), (57, .iaload, 1), (58, .ifCond .ne 14, 3), (61, .aload_n 0, 1), (62, .dup, 1), (63, .getfield 328, 3), (66, .bipush 16, 2), (68, .ior, 1), (69, .putfield 328, 3), (72, .iload 4, 2), (74, .ifCond .eq 73, 3), (77, .aload_n 0, 1), (78, .getfield 101, 3), (81, .iload_n 3, 1), (82, .iaload, 1), (83, .iconst 2, 1), (84, .if_icmp .lt 63, 3), (87, .aload_n 0, 1), (88, .aload_n 0, 1), (89, .getfield 107, 3), (92, .iload_n 3, 1), (93, .iaload, 1), (94, .putfield 225, 3), (97, .iconst 0, 1), (98, .istore 5, 2), (100, .iload 5, 2), (102, .aload_n 0, 1), (103, .getfield 225, 3), (106, .if_icmp .ge 30, 3), (109, .aload_n 0, 1), (110, .getfield 125, 3), (113, .iload 5, 2), (115, .aload_n 0, 1), (116, .getfield 122, 3), (119, .aload_n 0, 1), (120, .getfield 104, 3), (123, .iload_n 3, 1), (124, .iaload, 1), (125, .iload 5, 2), (127, .iadd, 1), (128, .iaload, 1), (129, .iastore, 1), (130, .iinc 5 1, 3), (133, .goto (-33), 3), (136, .aload_n 0, 1), (137, .iload_n 3, 1), (138, .aload_n 0, 1), (139, .getfield 95, 3), (142, .iload_n 3, 1), (143, .iaload, 1), (144, .invokevirtual 398, 3), (147, .iinc 3 1, 3), (150, .goto (-148), 3), (153, .return_, 1)]
def am_m166 : aM := (yX11_added, cX11_added, 6, none, 11, [], 2, am_i166)
theorem am_k166 : am_okM am_m166 := ⟨by decide +kernel, am_inP 1518 (by decide +kernel) rfl, am_inP 12 (by decide +kernel) rfl, rfl, by decide, by decide +kernel, by decide +kernel⟩
set_option maxRecDepth 100000 in
theorem am_d166 : am_okI am_m166 := by unfold am_okI; decide +kernel
def am_i167 : List (Nat × Instr × Nat) := [(0, .aload_n 0, 1), (1, .getfield 159, 3), (4, .ifCond .eq 4, 3), (7, .return_, 1), (8, .aload_n 0, 1), (9, .getfield 41, 3), (12, .aload_n 0, 1), (13, .getfield 222, 3), (16, .iconst 1, 1), (17, .isub, 1), (18, .iaload, 1), (19, .istore_n 1, 1), (20, .aload_n 0, 1), (21, .iconst 4, 1), (22, .bipush 97, 2), (24, .iload_n 1, 1), (25, .iadd, 1), (26, .invokevirtual 370, 3), (29, .aload_n 0, 1), (30, .getfield 53, 3), (33, .iload_n 1, 1), (34, .iaload, 1), (35, .iconst 4, 1), (36, .if_icmp .ne 27, 3), (39, .aload_n 0, 1), (40, .getfield 50, 3), (43, .aload_n 0, 1), (44, .getfield 222, 3), (47, .iconst 1, 1), (48, .isub, 1), (49, .baload, 1), (50, .ifCond .ne 13, 3), (53, .aload_n 0, 1), (54, .dup, 1), (55, .getfield 328, 3), (58, .iconst 4, 1), (59, .ior, 1), (60, .putfield 328, 3), (63, .aload_n 0, 1), (64, .dup, 1), (65, .getfield 222, 3), (68, .iconst 1, 1), (69, .isub, 1), (70, .putfield 222, 3), (73, .return_, 1)]
def am_m167 : aM := (yX11_finish, cX11_finish, 2, none, 11, [], 0, am_i167)
theorem am_k167 : am_okM am_m167 := ⟨by decide +kernel, am_inP 1522 (by decide +kernel) rfl, am_inP 12 (by decide +kernel) rfl, rfl, by decide, by decide +kernel, by decide +kernel⟩
set_option maxRecDepth 100000 in
theorem am_d167 : am_okI am_m167 := by unfold am_okI; decide +kernel
def am_i168 : List (Nat × Instr × Nat) := [(0, .aload_n 0, 1), (1, .getfield 44, 3), (4, .aload_n 0, 1), (5, .getfield 222, 3), (8, .iconst 1, 1), (9, .isub, 1), (10, .iaload, 1), (11, .aload_n 0, 1), (12, .getfield 179, 3), (15, .if_icmp .eq 8, 3), (18, .aload_n 0, 1), (19, .iconst 1, 1), (20, .invokevirtual 165, 3), (23, .aload_n 0, 1), (24, .bipush 97, 2), (26, .aload_n 0, 1), (27, .getfield 41, 3), (30, .aload_n 0, 1), (31, .getfield 222, 3), (34, .iconst 1, 1), (35, .isub, 1), (36, .iaload, 1), (37, .iadd, 1), (38, .invokevirtual 189, 3), (41, .aload_n 0, 1), (42, .invokevirtual 195, 3), (45, .pop, 1), (46, .aload_n 0, 1), (47, .bipush 62, 2), (49, .invokevirtual 189, 3), (52, .aload_n 0, 1), (53, .invokevirtual 395, 3), (56, .return_, 1)]
def am_m168 : aM := (yX11_tail, cX11_tail, 1, none, 11, [], 0, am_i168)
theorem am_k168 : am_okM am_m168 := ⟨by decide +kernel, am_inP 1530 (by decide +kernel) rfl, am_inP 12 (by decide +kernel) rfl, rfl, by decide, by decide +kernel, by decide +kernel⟩
set_option maxRecDepth 100000 in
theorem am_d168 : am_okI am_m168 := by unfold am_okI; decide +kernel
def am_i169 : List (Nat × Instr × Nat) := [(0, .aload_n 0, 1), (1, .invokevirtual 182, 3), (4, .istore_n 1, 1), (5, .iload_n 1, 1), (6, .ifCond .ge 39, 3), (9, .aload_n 0, 1), (10, .getfield 179, 3), (13, .ifCond .eq 19, 3), (16, .aload_n 0, 1), (17, .getfield 38, 3), (20, .aload_n 0, 1), (21, .getfield 179, 3), (24, .iaload, 1), (25, .aload_n 0, 1), (26, .getfield 222, 3), (29, .if_icmp .eq 11, 3), (32, .aload_n 0, 1), (33, .iconst 1, 1), (34, .invokevirtual 165, 3), (37, .goto 7, 3), (40, .aload_n 0, 1), (41, .invokevirtual 228, 3), (44, .return_, 1), (45, .aload_n 0, 1), (46, .invokevirtual 186, 3), (49, .iload_n 1, 1), (50, .bipush 60, 2), (52, .if_icmp .ne 23, 3), (55, .aload_n 0, 1), (56, .invokevirtual 182, 3), (59, .bipush 47, 2), (61, .if_icmp .ne 14, 3), (64, .aload_n 0, 1), (65, .invokevirtual 186, 3), (68, .aload_n 0, 1), (69, .invokevirtual 401, 3), (72, .goto 73, 3), (75, .iload_n 1, 1), (76, .bipush 60, 2), (78, .if_icmp .ne 23, 3), (81, .aload_n 0, 1), (82, .invokevirtual 182, 3), (85, .bipush 33, 2), (87, .if_icmp .ne 14, 3), (90, .aload_n 0, 1), (91, .invokevirtual 186, 3), (94, .aload_n 0, 1), (95, .invokevirtual 256, 3), (98, .goto 47, 3), (101, .iload_n 1, 1), (102, .bipush 60, 2), (104, .if_icmp .ne 10, 3), (107, .aload_n 0, 1), (108, .invokevirtual 404, 3), (111, .goto 34, 3), (114, .iload_n 1, 1), (115, .bipush 38, 2), (117, .if_icmp .ne 10, 3), (120, .aload_n 0, 1), (121, .invokevirtual 231, 3), (124, .goto 4, 3), (127, .iload_n 1, 1), (128, .istore_n 2, 1), (129, .iload_n 2, 1), (130, .ifCond .lt 15, 3), (133, .aload_n 0, 1), (134, .getfield 159, 3), (137, .ifCond .ne 8, 3), (140, .aload_n 0, 1), (141, .iload_n 2, 1), (142, .invokevirtual 407, 3), (145, .return_, 1)]
def am_m169 : aM := (yX11_content, cX11_content, 3, none, 11, [], 0, am_i169)
theorem am_k169 : am_okM am_m169 := ⟨by decide +kernel, am_inP 1526 (by decide +kernel) rfl, am_inP 12 (by decide +kernel) rfl, rfl, by decide, by decide +kernel, by decide +kernel⟩
set_option maxRecDepth 100000 in
theorem am_d169 : am_okI am_m169 := by unfold am_okI; decide +kernel
def am_i170 : List (Nat × Instr × Nat) := [(0, .iconst 1, 1), (1, .istore_n 2, 1), (2, .iload_n 2, 1), (3, .ifCond .eq 125, 3), (6, .aload_n 0, 1), (7, .getfield 159, 3), (10, .ifCond .ne 118, 3), (13, .aload_n 0, 1), (14, .invokevirtual 195, 3), (17, .pop, 1), (18, .aload_n 0, 1), (19, .invokevirtual 182, 3), (22, .bipush 60, 2), (24, .if_icmp .ne 7, 3), (27, .iconst 1, 1), (28, .goto 4, 3), (31, .iconst 0, 1), (32, .istore_n 2, 1), (33, .iload_n 2, 1), (34, .ifCond .eq 75, 3), (37, .aload_n 0, 1), (38, .invokevirtual 186, 3), (41, .aload_n 0, 1), (42, .invokevirtual 182, 3), (45, .bipush 33, 2), (47, .if_icmp .ne 41, 3), (50, .aload_n 0, 1), (51, .invokevirtual 186, 3), (54, .iload_n 1, 1), (55, .ifCond .eq 26, 3), (58, .aload_n 0, 1), (59, .getfield 252, 3), (62, .ifCond .ne 19, 3), (65, .aload_n 0, 1), (66, .invokevirtual 182, 3), (69, .bipush 68, 2), (71, .if_icmp .ne 10, 3), (74, .aload_n 0, 1), (75, .invokevirtual 410, 3), (78, .goto (-76), 3), (81, .aload_n 0, 1), (82, .invokevirtual 256, 3), (85, .goto (-83), 3), (88, .iconst 0, 1), (89, .istore_n 2, 1), (90, .iload_n 1, 1), (91, .ifCond .eq 10, 3), (94, .aload_n 0, 1), (95, .invokevirtual 404, 3), (98, .goto (-96), 3), (101, .aload_n 0, 1), (102, .iconst 1, 1), (103, .invokevirtual 165, 3), (106, .goto (-104), 3), (109, .iload_n 1, 1), (110, .ifCond .ne 10, 3), (113, .aload_n 0, 1), (114, .invokevirtual 182, 3), (117, .ifCond .lt (-115), 3), (120, .aload_n 0, 1), (121, .iconst 1, 1), (122, .invokevirtual 165, 3), (125, .goto (-123), 3), (128, .return_, 1)]
def am_m170 : aM := (yX11_around, cX11_around, 3, none, 11, [], 1, am_i170)
theorem am_k170 : am_okM am_m170 := ⟨by decide +kernel, am_inP 1322 (by decide +kernel) rfl, am_inP 12 (by decide +kernel) rfl, rfl, by decide, by decide +kernel, by decide +kernel⟩
set_option maxRecDepth 100000 in
theorem am_d170 : am_okI am_m170 := by unfold am_okI; decide +kernel
def am_i171 : List (Nat × Instr × Nat) := [(0, .aload_n 0, 1), (1, .getfield 137, 3), (4, .iload_n 1, 1), (5, .iaload, 1), (6, .aload_n 0, 1), (7, .getfield 137, 3), (10, .iload_n 2, 1), (11, .iaload, 1), (12, .if_icmp .ne 7, 3), (15, .iconst 1, 1), (16, .goto 4, 3), (19, .iconst 0, 1), (20, .istore_n 3, 1), (21, .iconst 0, 1), (22, .istore 4, 2), (24, .iload 4, 2), (26, .aload_n 0, 1), (27, .getfield 137, 3), (30, .iload_n 1, 1), (31, .iaload, 1), (32, .if_icmp .ge 50, 3), (35, .iload_n 3, 1), (36, .ifCond .eq 46, 3), (39, .aload_n 0, 1), (40, .getfield 143, 3), (43, .aload_n 0, 1), (44, .getfield 134, 3), (47, .iload_n 1, 1), (48, .iaload, 1), (49, .iload 4, 2), (51, .iadd, 1), (52, .iaload, 1), (53, .aload_n 0, 1), (54, .getfield 143, 3), (57, .aload_n 0, 1), (58, .getfield 134, 3), (61, .iload_n 2, 1), (62, .iaload, 1), (63, .iload 4, 2), (65, .iadd, 1), (66, .iaload, 1), (67, .if_icmp .ne 7, 3), (70, .iconst 1, 1), (71, .goto 4, 3), (74, .iconst 0, 1), (75, .istore_n 3, 1), (76, .iinc 4 1, 3), (79, .goto (-55), 3), (82, .iload_n 3, 1), (83, .ireturn, 1)]
def am_m171 : aM := (yX11_alike, cX11_alike, 5, some .boolean, 11, [], 2, am_i171)
theorem am_k171 : am_okM am_m171 := ⟨by decide +kernel, am_inP 1542 (by decide +kernel) rfl, am_inP 12 (by decide +kernel) rfl, rfl, by decide, by decide +kernel, by decide +kernel⟩
set_option maxRecDepth 100000 in
theorem am_d171 : am_okI am_m171 := by unfold am_okI; decide +kernel
def am_i172 : List (Nat × Instr × Nat) := [(0, .iconst 0, 1), (1, .istore_n 1, 1), (2, .iload_n 1, 1), (3, .aload_n 0, 1), (4, .getfield 364, 3), (7, .if_icmp .ge 126, 3), (10, .iconst 0, 1), (11, .istore_n 2, 1), (12, .iconst 0, 1), (13, .istore_n 3, 1), (14, .iload_n 3, 1), (15, .aload_n 0, 1), (16, .getfield 364, 3), (19, .if_icmp .ge 82, 3), (22, .aload_n 0, 1), (23, .getfield 140, 3), (26, .iload_n 3, 1), (27, .iaload, 1), (28, .iconst 1, 1), (29, .if_icmp .ne 21, 3), (32, .iload_n 3, 1), (33, .iload_n 1, 1), (34, .if_icmp .eq 16, 3), (37, .aload_n 0, 1), (38, .iload_n 1, 1), (39, .iload_n 3, 1), (40, .invokevirtual 413, 3), (43, .ifCond .eq 7, 3), (46, .iconst 1, 1), (47, .goto 4, 3), (50, .iconst 0, 1), (51, .istore 4, 2), (53, .aload_n 0, 1), (54, .getfield 140, 3), (57, .iload_n 1, 1), (58, .iaload, 1), (59, .iconst 1, 1), (60, .if_icmp .ne 20, 3), (63, .iload 4, 2), (65, .ifCond .eq 15, 3), (68, .aload_n 0, 1), (69, .dup, 1), (70, .getfield 328, 3), (73, .sipush 128, 3), (76, .ior, 1), (77, .putfield 328, 3), (80, .iload_n 2, 1), (81, .ifCond .ne 8, 3), (84, .iload 4, 2), (86, .ifCond .eq 7, 3), (89, .iconst 1, 1), (90, .goto 4, 3), (93, .iconst 0, 1), (94, .istore_n 2, 1), (95, .iinc 3 1, 3), (98, .goto (-84), 3), (101, .aload_n 0, 1), (102, .getfield 140, 3), (105, .iload_n 1, 1), (106, .iaload, 1), (107, .iconst 2, 1), (108, .if_icmp .ne 19, 3), (111, .iload_n 2, 1), (112, .ifCond .ne 15, 3), (115, .aload_n 0, 1), (116, .dup, 1), (117, .getfield 328, 3), (120, .sipush 256, 3), (123, .ior, 1), (124, .putfield 328, 3), (127, .iinc 1 1, 3), (130, .goto (-128), 3), (133, .return_, 1)]
def am_m172 : aM := (yX11_references, cX11_references, 5, none, 11, [], 0, am_i172)
theorem am_k172 : am_okM am_m172 := ⟨by decide +kernel, am_inP 1538 (by decide +kernel) rfl, am_inP 12 (by decide +kernel) rfl, rfl, by decide, by decide +kernel, by decide +kernel⟩
set_option maxRecDepth 100000 in
theorem am_d172 : am_okI am_m172 := by unfold am_okI; decide +kernel
def am_i173 : List (Nat × Instr × Nat) := [(0, .aload_n 0, 1), (1, .iconst 0, 1), (2, .putfield 159, 3), (5, .aload_n 0, 1), (6, .iconst 0, 1), (7, .putfield 216, 3), (10, .aload_n 0, 1), (11, .iconst 0, 1), (12, .putfield 328, 3), (15, .aload_n 0, 1), (16, .iconst 0, 1), (17, .putfield 364, 3), (20, .aload_n 0, 1), (21, .iconst 0, 1), (22, .putfield 367, 3), (25, .aload_n 0, 1), (26, .iconst 0, 1), (27, .putfield 222, 3), (30, .aload_n 0, 1), (31, .iconst 0, 1), (32, .putfield 252, 3), (35, .aload_n 0, 1), (36, .iconst 0, 1), (37, .putfield 297, 3), (40, .aload_n 0, 1), (41, .iconst 0, 1), (42, .putfield 285, 3), (45, .aload_n 0, 1), (46, .iconst 0, 1), (47, .putfield 291, 3), (50, .iconst 0, 1), (51, .istore_n 1, 1), (52, .iload_n 1, 1), (53, .bipush 26, 2), (55, .if_icmp .ge 44, 3), (58, .aload_n 0, 1), (59, .getfield 19, 3), (62, .iload_n 1, 1), (63, .iconst (-1), 1), (64, .iastore, 1), (65, .aload_n 0, 1), (66, .getfield 25, 3), (69, .iload_n 1, 1), (70, .iconst 0, 1), (71, .bastore, 1), (72, .aload_n 0, 1), (73, .getfield 53, 3), (76, .iload_n 1, 1), (77, .iconst 0, 1), (78, .iastore, 1), (79, .aload_n 0, 1), (80, .getfield 68, 3), (83, .iload_n 1, 1), (84, .iconst 0, 1), (85, .iastore, 1), (86, .aload_n 0, 1), (87, .getfield 74, 3), (90, .iload_n 1, 1), (91, .iconst 0, 1), (92, .bastore, 1), (93, .iinc 1 1, 3), (96, .goto (-44), 3), (99, .return_, 1)]
def am_m173 : aM := (yX11_begin, cX11_begin, 2, none, 11, [], 0, am_i173)
theorem am_k173 : am_okM am_m173 := ⟨by decide +kernel, am_inP 1300 (by decide +kernel) rfl, am_inP 12 (by decide +kernel) rfl, rfl, by decide, by decide +kernel, by decide +kernel⟩
set_option maxRecDepth 100000 in
theorem am_d173 : am_okI am_m173 := by unfold am_okI; decide +kernel
def am_i174 : List (Nat × Instr × Nat) := [(0, .aload_n 0, 1), (1, .iconst 0, 1), (2, .putfield 146, 3), (5, .iload_n 1, 1), (6, .ifCond .lt 10, 3), (9, .iload_n 1, 1), (10, .sipush 2000, 3), (13, .if_icmp .le 19, 3), (16, .aload_n 0, 1), (17, .iconst 0, 1), (18, .putfield 364, 3), (21, .aload_n 0, 1), (22, .iconst 0, 1), (23, .putfield 367, 3), (26, .aload_n 0, 1), (27, .iconst 1, 1), (28, .invokevirtual 150, 3), (31, .ireturn, 1), (32, .aload_n 0, 1), (33, .invokevirtual 416, 3), (36, .aload_n 0, 1), (37, .iload_n 1, 1), (38, .putfield 219, 3), (41, .aload_n 0, 1), (42, .invokevirtual 419, 3), (45, .aload_n 0, 1), (46, .iconst 1, 1), (47, .invokevirtual 422, 3), (50, .aload_n 0, 1), (51, .getfield 222, 3), (54, .ifCond .le 17, 3), (57, .aload_n 0, 1), (58, .getfield 159, 3), (61, .ifCond .ne 10, 3), (64, .aload_n 0, 1), (65, .invokevirtual 426, 3), (68, .goto (-18), 3), (71, .aload_n 0, 1), (72, .iconst 0, 1), (73, .invokevirtual 422, 3), (76, .aload_n 0, 1), (77, .getfield 159, 3), (80, .ifCond .eq 27, 3), (83, .aload_n 0, 1), (84, .iconst 0, 1), (85, .putfield 364, 3), (88, .aload_n 0, 1), (89, .getfield 7, 3), (92, .iconst 2, 1), (93, .dup2, 1), (94, .iaload, 1), (95, .iconst 1, 1), (96, .iadd, 1), (97, .iastore, 1), (98, .aload_n 0, 1), (99, .aload_n 0, 1), (100, .getfield 159, 3), (103, .invokevirtual 150, 3), (106, .ireturn, 1), (107, .aload_n 0, 1), (108, .invokevirtual 429, 3), (111, .aload_n 0, 1), (112, .getfield 252, 3), (115, .ifCond .eq 10, 3), (118, .aload_n 0, 1), (119, .getfield 328, 3), (122, .goto 4, 3), (125, .iconst 1, 1), (126, .istore_n 2, 1), (127, .aload_n 0, 1), (128, .getfield 7, 3), (131, .iload_n 2, 1), (132, .ifCond .ne 7, 3), (135, .iconst 0, 1), (136, .goto 4, 3), (139, .iconst 1, 1), (140, .dup2, 1), (141, .iaload, 1), (142, .iconst 1, 1), (143, .iadd, 1), (144, .iastore, 1), (145, .iload_n 2, 1), (146, .ireturn, 1)]
def am_m174 : aM := (yX11_judge, cX11_judge, 3, some .int, 11, [], 1, am_i174)
theorem am_k174 : am_okM am_m174 := ⟨by decide +kernel, am_inP 1296 (by decide +kernel) rfl, am_inP 12 (by decide +kernel) rfl, rfl, by decide, by decide +kernel, by decide +kernel⟩
set_option maxRecDepth 100000 in
theorem am_d174 : am_okI am_m174 := by unfold am_okI; decide +kernel
def am_i175 : List (Nat × Instr × Nat) := [(0, .aload_n 0, 1), (1, .iconst 0, 1), (2, .putfield 146, 3), (5, .aload_n 0, 1), (6, .getfield 364, 3), (9, .ireturn, 1)]
def am_m175 : aM := (yX11_events, cX11_events, 1, some .int, 11, [], 0, am_i175)
theorem am_k175 : am_okM am_m175 := ⟨by decide +kernel, am_inP 1546 (by decide +kernel) rfl, am_inP 12 (by decide +kernel) rfl, rfl, by decide, by decide +kernel, by decide +kernel⟩
set_option maxRecDepth 100000 in
theorem am_d175 : am_okI am_m175 := by unfold am_okI; decide +kernel
def am_i176 : List (Nat × Instr × Nat) := [(0, .aload_n 0, 1), (1, .iconst 0, 1), (2, .putfield 146, 3), (5, .iload_n 1, 1), (6, .aload_n 0, 1), (7, .getfield 364, 3), (10, .invokestatic 432, 3), (13, .ifCond .eq 11, 3), (16, .iload_n 2, 1), (17, .iconst 3, 1), (18, .invokestatic 432, 3), (21, .ifCond .ne 9, 3), (24, .aload_n 0, 1), (25, .iconst 1, 1), (26, .invokevirtual 150, 3), (29, .ireturn, 1), (30, .iload_n 2, 1), (31, .ifCond .ne 12, 3), (34, .aload_n 0, 1), (35, .getfield 128, 3), (38, .iload_n 1, 1), (39, .iaload, 1), (40, .goto 23, 3), (43, .iload_n 2, 1), (44, .iconst 1, 1), (45, .if_icmp .ne 12, 3), (48, .aload_n 0, 1), (49, .getfield 131, 3), (52, .iload_n 1, 1), (53, .iaload, 1), (54, .goto 9, 3), (57, .aload_n 0, 1), (58, .getfield 137, 3), (61, .iload_n 1, 1), (62, .iaload, 1), (63, .ireturn, 1)]
def am_m176 : aM := (yX11_event, cX11_event, 3, some .int, 11, [], 2, am_i176)
theorem am_k176 : am_okM am_m176 := ⟨by decide +kernel, am_inP 1550 (by decide +kernel) rfl, am_inP 12 (by decide +kernel) rfl, rfl, by decide, by decide +kernel, by decide +kernel⟩
set_option maxRecDepth 100000 in
theorem am_d176 : am_okI am_m176 := by unfold am_okI; decide +kernel
def am_i177 : List (Nat × Instr × Nat) := [(0, .aload_n 0, 1), (1, .iconst 0, 1), (2, .putfield 146, 3), (5, .iload_n 1, 1), (6, .aload_n 0, 1), (7, .getfield 364, 3), (10, .invokestatic 432, 3), (13, .ifCond .eq 16, 3), (16, .iload_n 2, 1), (17, .aload_n 0, 1), (18, .getfield 137, 3), (21, .iload_n 1, 1), (22, .iaload, 1), (23, .invokestatic 432, 3), (26, .ifCond .ne 11, 3), (29, .aload_n 0, 1), (30, .iconst 1, 1), (31, .invokevirtual 150, 3), (34, .goto 16, 3), (37, .aload_n 0, 1), (38, .getfield 143, 3), (41, .aload_n 0, 1), (42, .getfield 134, 3), (45, .iload_n 1, 1), (46, .iaload, 1), (47, .iload_n 2, 1), (48, .iadd, 1), (49, .iaload, 1), (50, .ireturn, 1)]
def am_m177 : aM := (yX11_character, cX11_character, 3, some .int, 11, [], 2, am_i177)
theorem am_k177 : am_okM am_m177 := ⟨by decide +kernel, am_inP 1557 (by decide +kernel) rfl, am_inP 12 (by decide +kernel) rfl, rfl, by decide, by decide +kernel, by decide +kernel⟩
set_option maxRecDepth 100000 in
theorem am_d177 : am_okI am_m177 := by unfold am_okI; decide +kernel
def am_i178 : List (Nat × Instr × Nat) := [(0, .aload_n 0, 1), (1, .iconst 0, 1), (2, .putfield 146, 3), (5, .aload_n 0, 1), (6, .getfield 216, 3), (9, .ireturn, 1)]
def am_m178 : aM := (yX11_cost, cX11_cost, 1, some .int, 11, [], 0, am_i178)
theorem am_k178 : am_okM am_m178 := ⟨by decide +kernel, am_inP 1561 (by decide +kernel) rfl, am_inP 12 (by decide +kernel) rfl, rfl, by decide, by decide +kernel, by decide +kernel⟩
set_option maxRecDepth 100000 in
theorem am_d178 : am_okI am_m178 := by unfold am_okI; decide +kernel
def am_i179 : List (Nat × Instr × Nat) := [(0, .aload_n 0, 1), (1, .iconst 0, 1), (2, .putfield 146, 3), (5, .iload_n 1, 1), (6, .iconst 3, 1), (7, .invokestatic 432, 3), (10, .ifCond .eq 12, 3), (13, .aload_n 0, 1), (14, .getfield 7, 3), (17, .iload_n 1, 1), (18, .iaload, 1), (19, .goto 4, 3), (22, .iconst (-1), 1), (23, .ireturn, 1)]
def am_m179 : aM := (yX11_count, cX11_count, 2, some .int, 11, [], 1, am_i179)
theorem am_k179 : am_okM am_m179 := ⟨by decide +kernel, am_inP 1565 (by decide +kernel) rfl, am_inP 12 (by decide +kernel) rfl, rfl, by decide, by decide +kernel, by decide +kernel⟩
set_option maxRecDepth 100000 in
theorem am_d179 : am_okI am_m179 := by unfold am_okI; decide +kernel
def am_i180 : List (Nat × Instr × Nat) := [(0, .aload 4, 2), (2, .iconst 0, 1), (3, .aload_n 0, 1), (4, .lload_n 1, 1), (5, .iload_n 3, 1), (6, .invokevirtual 7, 3), (9, .i2l, 1), (10, .lastore, 1), (11, .goto 11, 3), (14, .astore 5, 2), (16, .iconst 1, 1), (17, .ireturn, 1), (18, .astore 5, 2), (20, .iconst 2, 1), (21, .ireturn, 1), (22, .iconst 0, 1), (23, .ireturn, 1)]
def am_m180 : aM := (yL_bytes, cL_bytes, 6, some .int, 12, [(0, 11, 14, 13), (0, 11, 18, 15)], 4, am_i180)
theorem am_k180 : am_okM am_m180 := ⟨by decide +kernel, am_inP 416 (by decide +kernel) rfl, am_inP 0 (by decide +kernel) rfl, rfl, by decide, by decide +kernel, by decide +kernel⟩
set_option maxRecDepth 100000 in
theorem am_d180 : am_okI am_m180 := by unfold am_okI; decide +kernel
def am_i181 : List (Nat × Instr × Nat) := [(0, .aload_n 2, 1), (1, .iconst 0, 1), (2, .aload_n 0, 1), (3, .iload_n 1, 1), (4, .invokevirtual 17, 3), (7, .i2l, 1), (8, .lastore, 1), (9, .goto 12, 3), (12, .astore_n 3, 1), (13, .iconst 1, 1), (14, .ireturn, 1), (15, .astore_n 3, 1), (16, .iconst 2, 1), (17, .ireturn, 1), (18, .astore_n 3, 1), (19, .iconst 3, 1), (20, .ireturn, 1), (21, .iconst 0, 1), (22, .ireturn, 1)]
def am_m181 : aM := (yL_judge, cL_judge, 4, some .int, 12, [(0, 9, 12, 13), (0, 9, 15, 15), (0, 9, 18, 21)], 3, am_i181)
theorem am_k181 : am_okM am_m181 := ⟨by decide +kernel, am_inP 504 (by decide +kernel) rfl, am_inP 0 (by decide +kernel) rfl, rfl, by decide, by decide +kernel, by decide +kernel⟩
set_option maxRecDepth 100000 in
theorem am_d181 : am_okI am_m181 := by unfold am_okI; decide +kernel
def am_i182 : List (Nat × Instr × Nat) := [(0, .aload_n 3, 1), (1, .iconst 0, 1), (2, .aload_n 0, 1), (3, .iload_n 1, 1), (4, .iload_n 2, 1), (5, .invokevirtual 23, 3), (8, .i2l, 1), (9, .lastore, 1), (10, .goto 7, 3), (13, .astore 4, 2), (15, .iconst 1, 1), (16, .ireturn, 1), (17, .iconst 0, 1), (18, .ireturn, 1)]
def am_m182 : aM := (yL_event, cL_event, 5, some .int, 12, [(0, 10, 13, 27)], 4, am_i182)
theorem am_k182 : am_okM am_m182 := ⟨by decide +kernel, am_inP 1045 (by decide +kernel) rfl, am_inP 0 (by decide +kernel) rfl, rfl, by decide, by decide +kernel, by decide +kernel⟩
set_option maxRecDepth 100000 in
theorem am_d182 : am_okI am_m182 := by unfold am_okI; decide +kernel
def am_i183 : List (Nat × Instr × Nat) := [(0, .aload_n 3, 1), (1, .iconst 0, 1), (2, .aload_n 0, 1), (3, .iload_n 1, 1), (4, .iload_n 2, 1), (5, .invokevirtual 29, 3), (8, .i2l, 1), (9, .lastore, 1), (10, .goto 7, 3), (13, .astore 4, 2), (15, .iconst 1, 1), (16, .ireturn, 1), (17, .iconst 0, 1), (18, .ireturn, 1)]
def am_m183 : aM := (yL_character, cL_character, 5, some .int, 12, [(0, 10, 13, 27)], 4, am_i183)
theorem am_k183 : am_okM am_m183 := ⟨by decide +kernel, am_inP 1068 (by decide +kernel) rfl, am_inP 0 (by decide +kernel) rfl, rfl, by decide, by decide +kernel, by decide +kernel⟩
set_option maxRecDepth 100000 in
theorem am_d183 : am_okI am_m183 := by unfold am_okI; decide +kernel
def am_i184 : List (Nat × Instr × Nat) := [(0, .new 8, 3), (3, .dup, 1), (4, .invokespecial 32, 3), (7, .astore_n 1, 1), (8, .new 33, 3), (11, .dup, 1), (12, .invokespecial 35, 3), (15, .astore_n 2, 1), (16, .iconst 1, 1), (17, .newarray .long, 2), (19, .astore_n 3, 1), (20, .iconst 0, 1), (21, .istore 4, 2), (23, .iload 4, 2), (25, .aload_n 0, 1), (26, .arraylength, 1), (27, .iconst 4, 1), (28, .isub, 1), (29, .if_icmp .gt 333, 3), (32, .aload_n 0, 1), (33, .iload 4, 2), (35, .iaload, 1), (36, .bipush 7, 2), (38, .iand, 1), (39, .tableswitch 317 0 7 #[45, 145, 158, 186, 199, 239, 279, 292], 45), (84, .aload_n 1, 1), (85, .aload_n 0, 1), (86, .iload 4, 2), (88, .iconst 1, 1), (89, .iadd, 1), (90, .iaload, 1), (91, .i2l, 1), (92, .bipush 32, 2), (94, .lshl, 1), (95, .aload_n 0, 1), (96, .iload 4, 2), (98, .iconst 2, 1), (99, .iadd, 1), (100, .iaload, 1), (101, .i2l, 1), (102, .ldc2_w 36, 3), (105, .land, 1), (106, .lor, 1), (107, .aload_n 0, 1), (108, .iload 4, 2), (110, .iconst 3, 1), (111, .iadd, 1), (112, .iaload, 1), (113, .aload_n 3, 1), (114, .invokestatic 38, 3), (117, .istore 5, 2), (119, .aload_n 2, 1), (120, .aload_n 0, 1), (121, .iload 4, 2), (123, .iconst 1, 1), (124, .iadd, 1), (125, .iaload, 1), (126, .i2l, 1), (127, .bipush 32, 2), (129, .lshl, 1), (130, .aload_n 0, 1), (131, .iload 4, 2), (133, .iconst 2, 1), (134, .iadd, 1), (135, .iaload, 1), (136, .i2l, 1), (137, .ldc2_w 36, 3), (140, .land, 1), (141, .lor, 1), (142, .aload_n 0, 1), (143, .iload 4, 2), (145, .iconst 3, 1), (146, .iadd, 1), (147, .iaload, 1), (148, .invokevirtual 43, 3), (151, .istore 6, 2), (153, .aload_n 2, 1), (154, .invokevirtual 44, 3), (157, .iload 5, 2), (159, .if_icmp .eq 5, 3), (162, .iconst 0, 1), (163, .ireturn, 1), (164, .iload 5, 2), (166, .ifCond .ne 15, 3), (169, .aload_n 3, 1), (170, .iconst 0, 1), (171, .laload, 1), (172, .iload 6, 2), (174, .i2l, 1), (175, .lcmp, 1), (176, .ifCond .eq 5, 3), (179, .iconst 0, 1), (180, .ireturn, 1), (181, .goto 175, 3), (184, .aload_n 1, 1), (185, .invokevirtual 48, 3), (188, .pop, 1), (189, .aload_n 2, 1), (190, .invokevirtual 51, 3), (193, .pop, 1), (194, .goto 162, 3), (197, .aload_n 1, 1), (198, .aload_n 0, 1), (199, .iload 4, 2), (201, .iconst 1, 1), (202, .iadd, 1), (203, .iaload, 1), (204, .aload_n 3, 1), (205, .invokestatic 52, 3), (208, .istore 5, 2), (210, .aload_n 2, 1), (211, .aload_n 0, 1), (212, .iload 4, 2), (214, .iconst 1, 1), (215, .iadd, 1), (216, .iaload, 1), (217, .invokevirtual 55, 3), (220, .istore 6, 2), (222, .goto 134, 3), (225, .aload_n 1, 1), (226, .invokevirtual 56, 3), (229, .pop, 1), (230, .aload_n 2, 1), (231, .invokevirtual 59, 3), (234, .pop, 1), (235, .goto 121, 3), (238, .aload_n 1, 1), (239, .aload_n 0, 1), (240, .iload 4, 2), (242, .iconst 1, 1), (243, .iadd, 1), (244, .iaload, 1), (245, .aload_n 0, 1), (246, .iload 4, 2), (248, .iconst 2, 1), (249, .iadd, 1), (250, .iaload, 1), (251, .aload_n 3, 1), (252, .invokestatic 60, 3), (255, .istore 5, 2), (257, .aload_n 2, 1), (258, .aload_n 0, 1), (259, .iload 4, 2), (261, .iconst 1, 1), (262, .iadd, 1), (263, .iaload, 1), (264, .aload_n 0, 1), (265, .iload 4, 2), (267, .iconst 2, 1), (268, .iadd, 1), (269, .iaload, 1), (270, .invokevirtual 63, 3), (273, .istore 6, 2), (275, .goto 81, 3), (278, .aload_n 1, 1), (279, .aload_n 0, 1), (280, .iload 4, 2), (282, .iconst 1, 1), (283, .iadd, 1), (284, .iaload, 1), (285, .aload_n 0, 1), (286, .iload 4, 2), (288, .iconst 2, 1), (289, .iadd, 1), (290, .iaload, 1), (291, .aload_n 3, 1), (292, .invokestatic 64, 3), (295, .istore 5, 2), (297, .aload_n 2, 1), (298, .aload_n 0, 1), (299, .iload 4, 2), (301, .iconst 1, 1), (302, .iadd, 1), (303, .iaload, 1), (304, .aload_n 0, 1), (305, .iload 4, 2), (307, .iconst 2, 1), (308, .iadd, 1), (309, .iaload, 1), (310, .invokevirtual 66, 3), (313, .istore 6, 2), (315, .goto 41, 3), (318, .aload_n 1, 1), (319, .invokevirtual 67, 3), (322, .pop, 1), (323, .aload_n 2, 1), (324, .invokevirtual 70, 3), (327, .pop, 1), (328, .goto 28, 3), (331, .aload_n 1, 1), (332, .aload_n 0, 1), (333, .iload 4, 2), (335, .iconst 1, 1), (336, .iadd, 1), (337, .iaload, 1), (338, .invokevirtual 71, 3), (341, .pop, 1), (342, .aload_n 2, 1), (343, .aload_n 0, 1), (344, .iload 4, 2), (346, .iconst 1, 1), (347, .iadd, 1), (348, .iaload, 1), (349, .invokevirtual 74, 3), (352, .pop, 1), (353, .goto 3, 3), (356, .iinc 4 4, 3), (359, .goto (-336), 3), (362, .iconst 1, 1), (363, .ireturn, 1)]
def am_m184 : aM := (x, code, 7, some .boolean, 12, [], 1, am_i184)
set_option maxRecDepth 100000 in
theorem am_d184 : am_okI am_m184 := by unfold am_okI; decide +kernel
end
section
/-! LINKS, FIELDS, CONSTANTS (by program) -/
def am_p0 : List aM := [am_m0, am_m1, am_m2, am_m3, am_m4, am_m5, am_m6, am_m7, am_m8, am_m9, am_m10, am_m11, am_m12, am_m13, am_m14, am_m15]
theorem am_pd0 : ∀ r ∈ am_p0, am_okI r := List.forall_mem_cons.mpr ⟨am_d0, List.forall_mem_cons.mpr ⟨am_d1, List.forall_mem_cons.mpr ⟨am_d2, List.forall_mem_cons.mpr ⟨am_d3, List.forall_mem_cons.mpr ⟨am_d4, List.forall_mem_cons.mpr ⟨am_d5, List.forall_mem_cons.mpr ⟨am_d6, List.forall_mem_cons.mpr ⟨am_d7, List.forall_mem_cons.mpr ⟨am_d8, List.forall_mem_cons.mpr ⟨am_d9, List.forall_mem_cons.mpr ⟨am_d10, List.forall_mem_cons.mpr ⟨am_d11, List.forall_mem_cons.mpr ⟨am_d12, List.forall_mem_cons.mpr ⟨am_d13, List.forall_mem_cons.mpr ⟨am_d14, List.forall_mem_cons.mpr ⟨am_d15, fun _ h => absurd h List.not_mem_nil⟩⟩⟩⟩⟩⟩⟩⟩⟩⟩⟩⟩⟩⟩⟩⟩
def am_p1 : List aM := [am_m16, am_m17, am_m18, am_m19, am_m20, am_m21, am_m22, am_m23, am_m24, am_m25, am_m26, am_m27, am_m28, am_m29, am_m30, am_m31]
theorem am_pd1 : ∀ r ∈ am_p1, am_okI r := List.forall_mem_cons.mpr ⟨am_d16, List.forall_mem_cons.mpr ⟨am_d17, List.forall_mem_cons.mpr ⟨am_d18, List.forall_mem_cons.mpr ⟨am_d19, List.forall_mem_cons.mpr ⟨am_d20, List.forall_mem_cons.mpr ⟨am_d21, List.forall_mem_cons.mpr ⟨am_d22, List.forall_mem_cons.mpr ⟨am_d23, List.forall_mem_cons.mpr ⟨am_d24, List.forall_mem_cons.mpr ⟨am_d25, List.forall_mem_cons.mpr ⟨am_d26, List.forall_mem_cons.mpr ⟨am_d27, List.forall_mem_cons.mpr ⟨am_d28, List.forall_mem_cons.mpr ⟨am_d29, List.forall_mem_cons.mpr ⟨am_d30, List.forall_mem_cons.mpr ⟨am_d31, fun _ h => absurd h List.not_mem_nil⟩⟩⟩⟩⟩⟩⟩⟩⟩⟩⟩⟩⟩⟩⟩⟩
def am_p2 : List aM := [am_m32, am_m33, am_m34, am_m35, am_m36, am_m37, am_m38, am_m39, am_m40, am_m41, am_m42, am_m43, am_m44, am_m45, am_m46, am_m47]
theorem am_pd2 : ∀ r ∈ am_p2, am_okI r := List.forall_mem_cons.mpr ⟨am_d32, List.forall_mem_cons.mpr ⟨am_d33, List.forall_mem_cons.mpr ⟨am_d34, List.forall_mem_cons.mpr ⟨am_d35, List.forall_mem_cons.mpr ⟨am_d36, List.forall_mem_cons.mpr ⟨am_d37, List.forall_mem_cons.mpr ⟨am_d38, List.forall_mem_cons.mpr ⟨am_d39, List.forall_mem_cons.mpr ⟨am_d40, List.forall_mem_cons.mpr ⟨am_d41, List.forall_mem_cons.mpr ⟨am_d42, List.forall_mem_cons.mpr ⟨am_d43, List.forall_mem_cons.mpr ⟨am_d44, List.forall_mem_cons.mpr ⟨am_d45, List.forall_mem_cons.mpr ⟨am_d46, List.forall_mem_cons.mpr ⟨am_d47, fun _ h => absurd h List.not_mem_nil⟩⟩⟩⟩⟩⟩⟩⟩⟩⟩⟩⟩⟩⟩⟩⟩
def am_p3 : List aM := [am_m48, am_m49, am_m50, am_m51, am_m52, am_m53, am_m54, am_m55, am_m56, am_m57, am_m58, am_m59, am_m60, am_m61, am_m62, am_m63]
theorem am_pd3 : ∀ r ∈ am_p3, am_okI r := List.forall_mem_cons.mpr ⟨am_d48, List.forall_mem_cons.mpr ⟨am_d49, List.forall_mem_cons.mpr ⟨am_d50, List.forall_mem_cons.mpr ⟨am_d51, List.forall_mem_cons.mpr ⟨am_d52, List.forall_mem_cons.mpr ⟨am_d53, List.forall_mem_cons.mpr ⟨am_d54, List.forall_mem_cons.mpr ⟨am_d55, List.forall_mem_cons.mpr ⟨am_d56, List.forall_mem_cons.mpr ⟨am_d57, List.forall_mem_cons.mpr ⟨am_d58, List.forall_mem_cons.mpr ⟨am_d59, List.forall_mem_cons.mpr ⟨am_d60, List.forall_mem_cons.mpr ⟨am_d61, List.forall_mem_cons.mpr ⟨am_d62, List.forall_mem_cons.mpr ⟨am_d63, fun _ h => absurd h List.not_mem_nil⟩⟩⟩⟩⟩⟩⟩⟩⟩⟩⟩⟩⟩⟩⟩⟩
def am_p4 : List aM := [am_m64, am_m65, am_m66, am_m67, am_m68, am_m69, am_m70, am_m71, am_m72, am_m73, am_m74, am_m75, am_m76, am_m77, am_m78, am_m79]
theorem am_pd4 : ∀ r ∈ am_p4, am_okI r := List.forall_mem_cons.mpr ⟨am_d64, List.forall_mem_cons.mpr ⟨am_d65, List.forall_mem_cons.mpr ⟨am_d66, List.forall_mem_cons.mpr ⟨am_d67, List.forall_mem_cons.mpr ⟨am_d68, List.forall_mem_cons.mpr ⟨am_d69, List.forall_mem_cons.mpr ⟨am_d70, List.forall_mem_cons.mpr ⟨am_d71, List.forall_mem_cons.mpr ⟨am_d72, List.forall_mem_cons.mpr ⟨am_d73, List.forall_mem_cons.mpr ⟨am_d74, List.forall_mem_cons.mpr ⟨am_d75, List.forall_mem_cons.mpr ⟨am_d76, List.forall_mem_cons.mpr ⟨am_d77, List.forall_mem_cons.mpr ⟨am_d78, List.forall_mem_cons.mpr ⟨am_d79, fun _ h => absurd h List.not_mem_nil⟩⟩⟩⟩⟩⟩⟩⟩⟩⟩⟩⟩⟩⟩⟩⟩
def am_p5 : List aM := [am_m80, am_m81, am_m82, am_m83, am_m84, am_m85, am_m86, am_m87, am_m88, am_m89, am_m90, am_m91, am_m92, am_m93, am_m94, am_m95]
theorem am_pd5 : ∀ r ∈ am_p5, am_okI r := List.forall_mem_cons.mpr ⟨am_d80, List.forall_mem_cons.mpr ⟨am_d81, List.forall_mem_cons.mpr ⟨am_d82, List.forall_mem_cons.mpr ⟨am_d83, List.forall_mem_cons.mpr ⟨am_d84, List.forall_mem_cons.mpr ⟨am_d85, List.forall_mem_cons.mpr ⟨am_d86, List.forall_mem_cons.mpr ⟨am_d87, List.forall_mem_cons.mpr ⟨am_d88, List.forall_mem_cons.mpr ⟨am_d89, List.forall_mem_cons.mpr ⟨am_d90, List.forall_mem_cons.mpr ⟨am_d91, List.forall_mem_cons.mpr ⟨am_d92, List.forall_mem_cons.mpr ⟨am_d93, List.forall_mem_cons.mpr ⟨am_d94, List.forall_mem_cons.mpr ⟨am_d95, fun _ h => absurd h List.not_mem_nil⟩⟩⟩⟩⟩⟩⟩⟩⟩⟩⟩⟩⟩⟩⟩⟩
def am_p6 : List aM := [am_m96, am_m97, am_m98, am_m99, am_m100, am_m101, am_m102, am_m103, am_m104, am_m105, am_m106, am_m107, am_m108, am_m109, am_m110, am_m111]
theorem am_pd6 : ∀ r ∈ am_p6, am_okI r := List.forall_mem_cons.mpr ⟨am_d96, List.forall_mem_cons.mpr ⟨am_d97, List.forall_mem_cons.mpr ⟨am_d98, List.forall_mem_cons.mpr ⟨am_d99, List.forall_mem_cons.mpr ⟨am_d100, List.forall_mem_cons.mpr ⟨am_d101, List.forall_mem_cons.mpr ⟨am_d102, List.forall_mem_cons.mpr ⟨am_d103, List.forall_mem_cons.mpr ⟨am_d104, List.forall_mem_cons.mpr ⟨am_d105, List.forall_mem_cons.mpr ⟨am_d106, List.forall_mem_cons.mpr ⟨am_d107, List.forall_mem_cons.mpr ⟨am_d108, List.forall_mem_cons.mpr ⟨am_d109, List.forall_mem_cons.mpr ⟨am_d110, List.forall_mem_cons.mpr ⟨am_d111, fun _ h => absurd h List.not_mem_nil⟩⟩⟩⟩⟩⟩⟩⟩⟩⟩⟩⟩⟩⟩⟩⟩
def am_p7 : List aM := [am_m112, am_m113, am_m114, am_m115, am_m116, am_m117, am_m118, am_m119, am_m120, am_m121, am_m122, am_m123, am_m124, am_m125, am_m126, am_m127]
theorem am_pd7 : ∀ r ∈ am_p7, am_okI r := List.forall_mem_cons.mpr ⟨am_d112, List.forall_mem_cons.mpr ⟨am_d113, List.forall_mem_cons.mpr ⟨am_d114, List.forall_mem_cons.mpr ⟨am_d115, List.forall_mem_cons.mpr ⟨am_d116, List.forall_mem_cons.mpr ⟨am_d117, List.forall_mem_cons.mpr ⟨am_d118, List.forall_mem_cons.mpr ⟨am_d119, List.forall_mem_cons.mpr ⟨am_d120, List.forall_mem_cons.mpr ⟨am_d121, List.forall_mem_cons.mpr ⟨am_d122, List.forall_mem_cons.mpr ⟨am_d123, List.forall_mem_cons.mpr ⟨am_d124, List.forall_mem_cons.mpr ⟨am_d125, List.forall_mem_cons.mpr ⟨am_d126, List.forall_mem_cons.mpr ⟨am_d127, fun _ h => absurd h List.not_mem_nil⟩⟩⟩⟩⟩⟩⟩⟩⟩⟩⟩⟩⟩⟩⟩⟩
def am_p8 : List aM := [am_m128, am_m129, am_m130, am_m131, am_m132, am_m133, am_m134, am_m135, am_m136, am_m137, am_m138, am_m139, am_m140, am_m141, am_m142, am_m143]
theorem am_pd8 : ∀ r ∈ am_p8, am_okI r := List.forall_mem_cons.mpr ⟨am_d128, List.forall_mem_cons.mpr ⟨am_d129, List.forall_mem_cons.mpr ⟨am_d130, List.forall_mem_cons.mpr ⟨am_d131, List.forall_mem_cons.mpr ⟨am_d132, List.forall_mem_cons.mpr ⟨am_d133, List.forall_mem_cons.mpr ⟨am_d134, List.forall_mem_cons.mpr ⟨am_d135, List.forall_mem_cons.mpr ⟨am_d136, List.forall_mem_cons.mpr ⟨am_d137, List.forall_mem_cons.mpr ⟨am_d138, List.forall_mem_cons.mpr ⟨am_d139, List.forall_mem_cons.mpr ⟨am_d140, List.forall_mem_cons.mpr ⟨am_d141, List.forall_mem_cons.mpr ⟨am_d142, List.forall_mem_cons.mpr ⟨am_d143, fun _ h => absurd h List.not_mem_nil⟩⟩⟩⟩⟩⟩⟩⟩⟩⟩⟩⟩⟩⟩⟩⟩
def am_p9 : List aM := [am_m144, am_m145, am_m146, am_m147, am_m148, am_m149, am_m150, am_m151, am_m152, am_m153, am_m154, am_m155, am_m156, am_m157, am_m158, am_m159]
theorem am_pd9 : ∀ r ∈ am_p9, am_okI r := List.forall_mem_cons.mpr ⟨am_d144, List.forall_mem_cons.mpr ⟨am_d145, List.forall_mem_cons.mpr ⟨am_d146, List.forall_mem_cons.mpr ⟨am_d147, List.forall_mem_cons.mpr ⟨am_d148, List.forall_mem_cons.mpr ⟨am_d149, List.forall_mem_cons.mpr ⟨am_d150, List.forall_mem_cons.mpr ⟨am_d151, List.forall_mem_cons.mpr ⟨am_d152, List.forall_mem_cons.mpr ⟨am_d153, List.forall_mem_cons.mpr ⟨am_d154, List.forall_mem_cons.mpr ⟨am_d155, List.forall_mem_cons.mpr ⟨am_d156, List.forall_mem_cons.mpr ⟨am_d157, List.forall_mem_cons.mpr ⟨am_d158, List.forall_mem_cons.mpr ⟨am_d159, fun _ h => absurd h List.not_mem_nil⟩⟩⟩⟩⟩⟩⟩⟩⟩⟩⟩⟩⟩⟩⟩⟩
def am_p10 : List aM := [am_m160, am_m161, am_m162, am_m163, am_m164, am_m165, am_m166, am_m167, am_m168, am_m169, am_m170, am_m171, am_m172, am_m173, am_m174, am_m175]
theorem am_pd10 : ∀ r ∈ am_p10, am_okI r := List.forall_mem_cons.mpr ⟨am_d160, List.forall_mem_cons.mpr ⟨am_d161, List.forall_mem_cons.mpr ⟨am_d162, List.forall_mem_cons.mpr ⟨am_d163, List.forall_mem_cons.mpr ⟨am_d164, List.forall_mem_cons.mpr ⟨am_d165, List.forall_mem_cons.mpr ⟨am_d166, List.forall_mem_cons.mpr ⟨am_d167, List.forall_mem_cons.mpr ⟨am_d168, List.forall_mem_cons.mpr ⟨am_d169, List.forall_mem_cons.mpr ⟨am_d170, List.forall_mem_cons.mpr ⟨am_d171, List.forall_mem_cons.mpr ⟨am_d172, List.forall_mem_cons.mpr ⟨am_d173, List.forall_mem_cons.mpr ⟨am_d174, List.forall_mem_cons.mpr ⟨am_d175, fun _ h => absurd h List.not_mem_nil⟩⟩⟩⟩⟩⟩⟩⟩⟩⟩⟩⟩⟩⟩⟩⟩
def am_p11 : List aM := [am_m176, am_m177, am_m178, am_m179, am_m180, am_m181, am_m182, am_m183, am_m184]
theorem am_pd11 : ∀ r ∈ am_p11, am_okI r := List.forall_mem_cons.mpr ⟨am_d176, List.forall_mem_cons.mpr ⟨am_d177, List.forall_mem_cons.mpr ⟨am_d178, List.forall_mem_cons.mpr ⟨am_d179, List.forall_mem_cons.mpr ⟨am_d180, List.forall_mem_cons.mpr ⟨am_d181, List.forall_mem_cons.mpr ⟨am_d182, List.forall_mem_cons.mpr ⟨am_d183, List.forall_mem_cons.mpr ⟨am_d184, fun _ h => absurd h List.not_mem_nil⟩⟩⟩⟩⟩⟩⟩⟩⟩
def am_prog : List aM := am_p0 ++ (am_p1 ++ (am_p2 ++ (am_p3 ++ (am_p4 ++ (am_p5 ++ (am_p6 ++ (am_p7 ++ (am_p8 ++ (am_p9 ++ (am_p10 ++ (am_p11)))))))))))
theorem am_prog_ok : ∀ r ∈ am_prog, am_okI r := List.forall_mem_append.mpr ⟨am_pd0, List.forall_mem_append.mpr ⟨am_pd1, List.forall_mem_append.mpr ⟨am_pd2, List.forall_mem_append.mpr ⟨am_pd3, List.forall_mem_append.mpr ⟨am_pd4, List.forall_mem_append.mpr ⟨am_pd5, List.forall_mem_append.mpr ⟨am_pd6, List.forall_mem_append.mpr ⟨am_pd7, List.forall_mem_append.mpr ⟨am_pd8, List.forall_mem_append.mpr ⟨am_pd9, List.forall_mem_append.mpr ⟨am_pd10, am_pd11⟩⟩⟩⟩⟩⟩⟩⟩⟩⟩⟩
def am_okL (r : Nat × Nat × Nat × Nat) : Prop := ∃ a : aM, am_prog[r.2.2.1]? = some a ∧ (am_in (.methodLink (am_R r.1) r.2.1 a.1) ∨ ∃ host, am_in (.methodLinkNest (am_R r.1) r.2.1 a.1 host)) ∧ am_okM a ∧
  ((r.2.2.2 = 0 ∧ am_in (.static a.1)) ∨ (r.2.2.2 = 1 ∧ am_in (.instanceMethod a.1) ∧ am_in (.selects a.1.cls a.1 a.1)) ∨ (r.2.2.2 = 2 ∧ am_in (.instanceMethod a.1) ∧ a.1.name = "<init>" ∧ a.2.2.2.1 = none ∧ a.2.2.2.2.2.1 = []))
theorem am_l0 : am_okL (12, 32, 97, 2) := ⟨am_m97, by rfl, Or.inl (am_inP 27 (by decide +kernel) rfl), am_k97, Or.inr (Or.inr ⟨rfl, am_inP 28 (by decide +kernel) rfl, rfl, rfl, rfl⟩)⟩
theorem am_l1 : am_okL (10, 15, 67, 2) := ⟨am_m67, by rfl, Or.inr ⟨"MarkupJudge", am_inP 35 (by decide +kernel) rfl⟩, am_k67, Or.inr (Or.inr ⟨rfl, am_inP 36 (by decide +kernel) rfl, rfl, rfl, rfl⟩)⟩
theorem am_l2 : am_okL (10, 22, 58, 2) := ⟨am_m58, by rfl, Or.inl (am_inP 61 (by decide +kernel) rfl), am_k58, Or.inr (Or.inr ⟨rfl, am_inP 62 (by decide +kernel) rfl, rfl, rfl, rfl⟩)⟩
theorem am_l3 : am_okL (10, 31, 93, 2) := ⟨am_m93, by rfl, Or.inl (am_inP 98 (by decide +kernel) rfl), am_k93, Or.inr (Or.inr ⟨rfl, am_inP 99 (by decide +kernel) rfl, rfl, rfl, rfl⟩)⟩
theorem am_l4 : am_okL (10, 36, 30, 2) := ⟨am_m30, by rfl, Or.inl (am_inP 121 (by decide +kernel) rfl), am_k30, Or.inr (Or.inr ⟨rfl, am_inP 122 (by decide +kernel) rfl, rfl, rfl, rfl⟩)⟩
theorem am_l5 : am_okL (3, 17, 43, 2) := ⟨am_m43, by rfl, Or.inr ⟨"MarkupJudge", am_inP 128 (by decide +kernel) rfl⟩, am_k43, Or.inr (Or.inr ⟨rfl, am_inP 129 (by decide +kernel) rfl, rfl, rfl, rfl⟩)⟩
theorem am_l6 : am_okL (3, 24, 0, 2) := ⟨am_m0, by rfl, Or.inr ⟨"MarkupJudge", am_inP 158 (by decide +kernel) rfl⟩, am_k0, Or.inr (Or.inr ⟨rfl, am_inP 159 (by decide +kernel) rfl, rfl, rfl, rfl⟩)⟩
theorem am_l7 : am_okL (3, 43, 52, 2) := ⟨am_m52, by rfl, Or.inl (am_inP 214 (by decide +kernel) rfl), am_k52, Or.inr (Or.inr ⟨rfl, am_inP 215 (by decide +kernel) rfl, rfl, rfl, rfl⟩)⟩
theorem am_l8 : am_okL (10, 45, 7, 2) := ⟨am_m7, by rfl, Or.inr ⟨"MarkupJudge", am_inP 266 (by decide +kernel) rfl⟩, am_k7, Or.inr (Or.inr ⟨rfl, am_inP 267 (by decide +kernel) rfl, rfl, rfl, rfl⟩)⟩
theorem am_l9 : am_okL (10, 56, 85, 2) := ⟨am_m85, by rfl, Or.inl (am_inP 310 (by decide +kernel) rfl), am_k85, Or.inr (Or.inr ⟨rfl, am_inP 311 (by decide +kernel) rfl, rfl, rfl, rfl⟩)⟩
theorem am_l10 : am_okL (10, 65, 16, 2) := ⟨am_m16, by rfl, Or.inl (am_inP 332 (by decide +kernel) rfl), am_k16, Or.inr (Or.inr ⟨rfl, am_inP 333 (by decide +kernel) rfl, rfl, rfl, rfl⟩)⟩
theorem am_l11 : am_okL (12, 48, 99, 1) := ⟨am_m99, by rfl, Or.inl (am_inP 398 (by decide +kernel) rfl), am_k99, Or.inr (Or.inl ⟨rfl, am_inP 399 (by decide +kernel) rfl, am_inP 400 (by decide +kernel) rfl⟩)⟩
theorem am_l12 : am_okL (12, 56, 101, 1) := ⟨am_m101, by rfl, Or.inl (am_inP 402 (by decide +kernel) rfl), am_k101, Or.inr (Or.inl ⟨rfl, am_inP 403 (by decide +kernel) rfl, am_inP 404 (by decide +kernel) rfl⟩)⟩
theorem am_l13 : am_okL (12, 67, 104, 1) := ⟨am_m104, by rfl, Or.inl (am_inP 406 (by decide +kernel) rfl), am_k104, Or.inr (Or.inl ⟨rfl, am_inP 407 (by decide +kernel) rfl, am_inP 408 (by decide +kernel) rfl⟩)⟩
theorem am_l14 : am_okL (12, 71, 105, 1) := ⟨am_m105, by rfl, Or.inl (am_inP 410 (by decide +kernel) rfl), am_k105, Or.inr (Or.inl ⟨rfl, am_inP 411 (by decide +kernel) rfl, am_inP 412 (by decide +kernel) rfl⟩)⟩
theorem am_l15 : am_okL (12, 38, 180, 0) := ⟨am_m180, by rfl, Or.inl (am_inP 414 (by decide +kernel) rfl), am_k180, Or.inl ⟨rfl, am_inP 415 (by decide +kernel) rfl⟩⟩
theorem am_l16 : am_okL (12, 7, 98, 1) := ⟨am_m98, by rfl, Or.inl (am_inP 419 (by decide +kernel) rfl), am_k98, Or.inr (Or.inl ⟨rfl, am_inP 420 (by decide +kernel) rfl, am_inP 421 (by decide +kernel) rfl⟩)⟩
theorem am_l17 : am_okL (12, 52, 181, 0) := ⟨am_m181, by rfl, Or.inl (am_inP 502 (by decide +kernel) rfl), am_k181, Or.inl ⟨rfl, am_inP 503 (by decide +kernel) rfl⟩⟩
theorem am_l18 : am_okL (12, 17, 100, 1) := ⟨am_m100, by rfl, Or.inl (am_inP 506 (by decide +kernel) rfl), am_k100, Or.inr (Or.inl ⟨rfl, am_inP 507 (by decide +kernel) rfl, am_inP 508 (by decide +kernel) rfl⟩)⟩
theorem am_l19 : am_okL (10, 85, 59, 1) := ⟨am_m59, by rfl, Or.inl (am_inP 510 (by decide +kernel) rfl), am_k59, Or.inr (Or.inl ⟨rfl, am_inP 511 (by decide +kernel) rfl, am_inP 512 (by decide +kernel) rfl⟩)⟩
theorem am_l20 : am_okL (10, 92, 68, 1) := ⟨am_m68, by rfl, Or.inl (am_inP 514 (by decide +kernel) rfl), am_k68, Or.inr (Or.inl ⟨rfl, am_inP 515 (by decide +kernel) rfl, am_inP 516 (by decide +kernel) rfl⟩)⟩
theorem am_l21 : am_okL (7, 19, 69, 0) := ⟨am_m69, by rfl, Or.inl (am_inP 518 (by decide +kernel) rfl), am_k69, Or.inl ⟨rfl, am_inP 519 (by decide +kernel) rfl⟩⟩
theorem am_l22 : am_okL (7, 23, 70, 0) := ⟨am_m70, by rfl, Or.inl (am_inP 521 (by decide +kernel) rfl), am_k70, Or.inl ⟨rfl, am_inP 522 (by decide +kernel) rfl⟩⟩
theorem am_l23 : am_okL (7, 27, 106, 0) := ⟨am_m106, by rfl, Or.inr ⟨"MarkupJudge", am_inP 526 (by decide +kernel) rfl⟩, am_k106, Or.inl ⟨rfl, am_inP 527 (by decide +kernel) rfl⟩⟩
theorem am_l24 : am_okL (7, 34, 71, 1) := ⟨am_m71, by rfl, Or.inl (am_inP 532 (by decide +kernel) rfl), am_k71, Or.inr (Or.inl ⟨rfl, am_inP 533 (by decide +kernel) rfl, am_inP 534 (by decide +kernel) rfl⟩)⟩
theorem am_l25 : am_okL (10, 96, 31, 1) := ⟨am_m31, by rfl, Or.inl (am_inP 538 (by decide +kernel) rfl), am_k31, Or.inr (Or.inl ⟨rfl, am_inP 539 (by decide +kernel) rfl, am_inP 540 (by decide +kernel) rfl⟩)⟩
theorem am_l26 : am_okL (3, 50, 32, 1) := ⟨am_m32, by rfl, Or.inl (am_inP 542 (by decide +kernel) rfl), am_k32, Or.inr (Or.inl ⟨rfl, am_inP 544 (by decide +kernel) rfl, am_inS 1 9 (by decide +kernel)⟩)⟩
theorem am_l27 : am_okL (3, 107, 1, 1) := ⟨am_m1, by rfl, Or.inl (am_inP 546 (by decide +kernel) rfl), am_k1, Or.inr (Or.inl ⟨rfl, am_inP 547 (by decide +kernel) rfl, am_inP 548 (by decide +kernel) rfl⟩)⟩
theorem am_l28 : am_okL (3, 110, 44, 1) := ⟨am_m44, by rfl, Or.inl (am_inP 550 (by decide +kernel) rfl), am_k44, Or.inr (Or.inl ⟨rfl, am_inP 551 (by decide +kernel) rfl, am_inP 552 (by decide +kernel) rfl⟩)⟩
theorem am_l29 : am_okL (3, 53, 82, 1) := ⟨am_m82, by rfl, Or.inl (am_inP 554 (by decide +kernel) rfl), am_k82, Or.inr (Or.inl ⟨rfl, am_inP 555 (by decide +kernel) rfl, am_inP 556 (by decide +kernel) rfl⟩)⟩
theorem am_l30 : am_okL (7, 67, 78, 1) := ⟨am_m78, by rfl, Or.inl (am_inP 559 (by decide +kernel) rfl), am_k78, Or.inr (Or.inl ⟨rfl, am_inP 560 (by decide +kernel) rfl, am_inP 561 (by decide +kernel) rfl⟩)⟩
theorem am_l31 : am_okL (7, 64, 107, 0) := ⟨am_m107, by rfl, Or.inr ⟨"MarkupJudge", am_inP 563 (by decide +kernel) rfl⟩, am_k107, Or.inl ⟨rfl, am_inP 564 (by decide +kernel) rfl⟩⟩
theorem am_l32 : am_okL (7, 89, 81, 1) := ⟨am_m81, by rfl, Or.inl (am_inP 566 (by decide +kernel) rfl), am_k81, Or.inr (Or.inl ⟨rfl, am_inP 567 (by decide +kernel) rfl, am_inP 568 (by decide +kernel) rfl⟩)⟩
theorem am_l33 : am_okL (7, 76, 77, 1) := ⟨am_m77, by rfl, Or.inl (am_inP 571 (by decide +kernel) rfl), am_k77, Or.inr (Or.inl ⟨rfl, am_inP 572 (by decide +kernel) rfl, am_inP 573 (by decide +kernel) rfl⟩)⟩
theorem am_l34 : am_okL (7, 60, 76, 1) := ⟨am_m76, by rfl, Or.inl (am_inP 575 (by decide +kernel) rfl), am_k76, Or.inr (Or.inl ⟨rfl, am_inP 576 (by decide +kernel) rfl, am_inP 577 (by decide +kernel) rfl⟩)⟩
theorem am_l35 : am_okL (7, 86, 73, 1) := ⟨am_m73, by rfl, Or.inl (am_inP 630 (by decide +kernel) rfl), am_k73, Or.inr (Or.inl ⟨rfl, am_inP 631 (by decide +kernel) rfl, am_inP 632 (by decide +kernel) rfl⟩)⟩
theorem am_l36 : am_okL (3, 60, 77, 1) := ⟨am_m77, by rfl, Or.inl (am_inP 635 (by decide +kernel) rfl), am_k77, Or.inr (Or.inl ⟨rfl, am_inP 572 (by decide +kernel) rfl, am_inP 573 (by decide +kernel) rfl⟩)⟩
theorem am_l37 : am_okL (3, 64, 33, 1) := ⟨am_m33, by rfl, Or.inl (am_inP 636 (by decide +kernel) rfl), am_k33, Or.inr (Or.inl ⟨rfl, am_inP 638 (by decide +kernel) rfl, am_inS 2 9 (by decide +kernel)⟩)⟩
theorem am_l38 : am_okL (3, 89, 79, 1) := ⟨am_m79, by rfl, Or.inl (am_inP 640 (by decide +kernel) rfl), am_k79, Or.inr (Or.inl ⟨rfl, am_inP 641 (by decide +kernel) rfl, am_inP 642 (by decide +kernel) rfl⟩)⟩
theorem am_l39 : am_okL (3, 112, 75, 1) := ⟨am_m75, by rfl, Or.inl (am_inP 644 (by decide +kernel) rfl), am_k75, Or.inr (Or.inl ⟨rfl, am_inP 645 (by decide +kernel) rfl, am_inP 646 (by decide +kernel) rfl⟩)⟩
theorem am_l40 : am_okL (7, 47, 108, 0) := ⟨am_m108, by rfl, Or.inr ⟨"MarkupJudge", am_inP 648 (by decide +kernel) rfl⟩, am_k108, Or.inl ⟨rfl, am_inP 649 (by decide +kernel) rfl⟩⟩
theorem am_l41 : am_okL (3, 92, 78, 1) := ⟨am_m78, by rfl, Or.inl (am_inP 651 (by decide +kernel) rfl), am_k78, Or.inr (Or.inl ⟨rfl, am_inP 560 (by decide +kernel) rfl, am_inP 561 (by decide +kernel) rfl⟩)⟩
theorem am_l42 : am_okL (3, 116, 34, 1) := ⟨am_m34, by rfl, Or.inl (am_inP 652 (by decide +kernel) rfl), am_k34, Or.inr (Or.inl ⟨rfl, am_inP 654 (by decide +kernel) rfl, am_inS 3 9 (by decide +kernel)⟩)⟩
theorem am_l43 : am_okL (3, 123, 76, 1) := ⟨am_m76, by rfl, Or.inl (am_inP 657 (by decide +kernel) rfl), am_k76, Or.inr (Or.inl ⟨rfl, am_inP 576 (by decide +kernel) rfl, am_inP 577 (by decide +kernel) rfl⟩)⟩
theorem am_l44 : am_okL (3, 73, 35, 1) := ⟨am_m35, by rfl, Or.inl (am_inP 679 (by decide +kernel) rfl), am_k35, Or.inr (Or.inl ⟨rfl, am_inP 681 (by decide +kernel) rfl, am_inS 4 9 (by decide +kernel)⟩)⟩
theorem am_l45 : am_okL (3, 134, 53, 1) := ⟨am_m53, by rfl, Or.inl (am_inP 683 (by decide +kernel) rfl), am_k53, Or.inr (Or.inl ⟨rfl, am_inP 684 (by decide +kernel) rfl, am_inP 685 (by decide +kernel) rfl⟩)⟩
theorem am_l46 : am_okL (5, 17, 77, 1) := ⟨am_m77, by rfl, Or.inl (am_inP 688 (by decide +kernel) rfl), am_k77, Or.inr (Or.inl ⟨rfl, am_inP 572 (by decide +kernel) rfl, am_inP 573 (by decide +kernel) rfl⟩)⟩
theorem am_l47 : am_okL (5, 25, 44, 1) := ⟨am_m44, by rfl, Or.inl (am_inP 689 (by decide +kernel) rfl), am_k44, Or.inr (Or.inl ⟨rfl, am_inP 551 (by decide +kernel) rfl, am_inP 552 (by decide +kernel) rfl⟩)⟩
theorem am_l48 : am_okL (5, 31, 74, 1) := ⟨am_m74, by rfl, Or.inl (am_inP 691 (by decide +kernel) rfl), am_k74, Or.inr (Or.inl ⟨rfl, am_inP 692 (by decide +kernel) rfl, am_inP 693 (by decide +kernel) rfl⟩)⟩
theorem am_l49 : am_okL (5, 34, 78, 1) := ⟨am_m78, by rfl, Or.inl (am_inP 695 (by decide +kernel) rfl), am_k78, Or.inr (Or.inl ⟨rfl, am_inP 560 (by decide +kernel) rfl, am_inP 561 (by decide +kernel) rfl⟩)⟩
theorem am_l50 : am_okL (5, 40, 54, 1) := ⟨am_m54, by rfl, Or.inl (am_inP 697 (by decide +kernel) rfl), am_k54, Or.inr (Or.inl ⟨rfl, am_inP 699 (by decide +kernel) rfl, am_inS 5 4 (by decide +kernel)⟩)⟩
theorem am_l51 : am_okL (5, 75, 75, 1) := ⟨am_m75, by rfl, Or.inl (am_inP 703 (by decide +kernel) rfl), am_k75, Or.inr (Or.inl ⟨rfl, am_inP 645 (by decide +kernel) rfl, am_inP 646 (by decide +kernel) rfl⟩)⟩
theorem am_l52 : am_okL (5, 44, 55, 1) := ⟨am_m55, by rfl, Or.inl (am_inP 707 (by decide +kernel) rfl), am_k55, Or.inr (Or.inl ⟨rfl, am_inP 709 (by decide +kernel) rfl, am_inS 6 4 (by decide +kernel)⟩)⟩
theorem am_l53 : am_okL (5, 87, 56, 1) := ⟨am_m56, by rfl, Or.inl (am_inP 713 (by decide +kernel) rfl), am_k56, Or.inr (Or.inl ⟨rfl, am_inP 715 (by decide +kernel) rfl, am_inS 7 4 (by decide +kernel)⟩)⟩
theorem am_l54 : am_okL (5, 95, 45, 1) := ⟨am_m45, by rfl, Or.inl (am_inP 718 (by decide +kernel) rfl), am_k45, Or.inr (Or.inl ⟨rfl, am_inP 719 (by decide +kernel) rfl, am_inP 720 (by decide +kernel) rfl⟩)⟩
theorem am_l55 : am_okL (5, 48, 57, 1) := ⟨am_m57, by rfl, Or.inl (am_inP 724 (by decide +kernel) rfl), am_k57, Or.inr (Or.inl ⟨rfl, am_inP 726 (by decide +kernel) rfl, am_inS 8 4 (by decide +kernel)⟩)⟩
theorem am_l56 : am_okL (5, 90, 72, 1) := ⟨am_m72, by rfl, Or.inl (am_inP 728 (by decide +kernel) rfl), am_k72, Or.inr (Or.inl ⟨rfl, am_inP 729 (by decide +kernel) rfl, am_inP 730 (by decide +kernel) rfl⟩)⟩
theorem am_l57 : am_okL (5, 55, 46, 1) := ⟨am_m46, by rfl, Or.inl (am_inP 732 (by decide +kernel) rfl), am_k46, Or.inr (Or.inl ⟨rfl, am_inP 733 (by decide +kernel) rfl, am_inP 734 (by decide +kernel) rfl⟩)⟩
theorem am_l58 : am_okL (3, 138, 42, 1) := ⟨am_m42, by rfl, Or.inl (am_inP 736 (by decide +kernel) rfl), am_k42, Or.inr (Or.inl ⟨rfl, am_inP 738 (by decide +kernel) rfl, am_inS 9 9 (by decide +kernel)⟩)⟩
theorem am_l59 : am_okL (3, 95, 74, 1) := ⟨am_m74, by rfl, Or.inl (am_inP 740 (by decide +kernel) rfl), am_k74, Or.inr (Or.inl ⟨rfl, am_inP 692 (by decide +kernel) rfl, am_inP 693 (by decide +kernel) rfl⟩)⟩
theorem am_l60 : am_okL (3, 78, 37, 1) := ⟨am_m37, by rfl, Or.inl (am_inP 742 (by decide +kernel) rfl), am_k37, Or.inr (Or.inl ⟨rfl, am_inP 744 (by decide +kernel) rfl, am_inS 10 9 (by decide +kernel)⟩)⟩
theorem am_l61 : am_okL (3, 141, 72, 1) := ⟨am_m72, by rfl, Or.inl (am_inP 746 (by decide +kernel) rfl), am_k72, Or.inr (Or.inl ⟨rfl, am_inP 729 (by decide +kernel) rfl, am_inP 730 (by decide +kernel) rfl⟩)⟩
theorem am_l62 : am_okL (3, 166, 38, 1) := ⟨am_m38, by rfl, Or.inl (am_inP 747 (by decide +kernel) rfl), am_k38, Or.inr (Or.inl ⟨rfl, am_inP 749 (by decide +kernel) rfl, am_inS 11 9 (by decide +kernel)⟩)⟩
theorem am_l63 : am_okL (3, 172, 39, 1) := ⟨am_m39, by rfl, Or.inl (am_inP 751 (by decide +kernel) rfl), am_k39, Or.inr (Or.inl ⟨rfl, am_inP 753 (by decide +kernel) rfl, am_inS 12 9 (by decide +kernel)⟩)⟩
theorem am_l64 : am_okL (3, 213, 40, 1) := ⟨am_m40, by rfl, Or.inl (am_inP 759 (by decide +kernel) rfl), am_k40, Or.inr (Or.inl ⟨rfl, am_inP 761 (by decide +kernel) rfl, am_inS 13 9 (by decide +kernel)⟩)⟩
theorem am_l65 : am_okL (3, 216, 80, 1) := ⟨am_m80, by rfl, Or.inl (am_inP 763 (by decide +kernel) rfl), am_k80, Or.inr (Or.inl ⟨rfl, am_inP 764 (by decide +kernel) rfl, am_inP 765 (by decide +kernel) rfl⟩)⟩
theorem am_l66 : am_okL (7, 71, 110, 0) := ⟨am_m110, by rfl, Or.inr ⟨"MarkupJudge", am_inP 767 (by decide +kernel) rfl⟩, am_k110, Or.inl ⟨rfl, am_inP 768 (by decide +kernel) rfl⟩⟩
theorem am_l67 : am_okL (3, 175, 41, 1) := ⟨am_m41, by rfl, Or.inl (am_inP 771 (by decide +kernel) rfl), am_k41, Or.inr (Or.inl ⟨rfl, am_inP 773 (by decide +kernel) rfl, am_inS 14 9 (by decide +kernel)⟩)⟩
theorem am_l68 : am_okL (3, 178, 2, 1) := ⟨am_m2, by rfl, Or.inl (am_inP 778 (by decide +kernel) rfl), am_k2, Or.inr (Or.inl ⟨rfl, am_inP 779 (by decide +kernel) rfl, am_inP 780 (by decide +kernel) rfl⟩)⟩
theorem am_l69 : am_okL (3, 182, 3, 1) := ⟨am_m3, by rfl, Or.inl (am_inP 782 (by decide +kernel) rfl), am_k3, Or.inr (Or.inl ⟨rfl, am_inP 783 (by decide +kernel) rfl, am_inP 784 (by decide +kernel) rfl⟩)⟩
theorem am_l70 : am_okL (3, 186, 4, 1) := ⟨am_m4, by rfl, Or.inl (am_inP 788 (by decide +kernel) rfl), am_k4, Or.inr (Or.inl ⟨rfl, am_inP 789 (by decide +kernel) rfl, am_inP 790 (by decide +kernel) rfl⟩)⟩
theorem am_l71 : am_okL (3, 189, 94, 1) := ⟨am_m94, by rfl, Or.inl (am_inP 792 (by decide +kernel) rfl), am_k94, Or.inr (Or.inl ⟨rfl, am_inP 793 (by decide +kernel) rfl, am_inP 794 (by decide +kernel) rfl⟩)⟩
theorem am_l72 : am_okL (9, 27, 74, 1) := ⟨am_m74, by rfl, Or.inl (am_inP 796 (by decide +kernel) rfl), am_k74, Or.inr (Or.inl ⟨rfl, am_inP 692 (by decide +kernel) rfl, am_inP 693 (by decide +kernel) rfl⟩)⟩
theorem am_l73 : am_okL (9, 39, 72, 1) := ⟨am_m72, by rfl, Or.inl (am_inP 798 (by decide +kernel) rfl), am_k72, Or.inr (Or.inl ⟨rfl, am_inP 729 (by decide +kernel) rfl, am_inP 730 (by decide +kernel) rfl⟩)⟩
theorem am_l74 : am_okL (9, 43, 64, 1) := ⟨am_m64, by rfl, Or.inl (am_inP 799 (by decide +kernel) rfl), am_k64, Or.inr (Or.inl ⟨rfl, am_inP 800 (by decide +kernel) rfl, am_inP 801 (by decide +kernel) rfl⟩)⟩
theorem am_l75 : am_okL (9, 49, 73, 1) := ⟨am_m73, by rfl, Or.inl (am_inP 807 (by decide +kernel) rfl), am_k73, Or.inr (Or.inl ⟨rfl, am_inP 631 (by decide +kernel) rfl, am_inP 632 (by decide +kernel) rfl⟩)⟩
theorem am_l76 : am_okL (9, 52, 107, 0) := ⟨am_m107, by rfl, Or.inr ⟨"MarkupJudge", am_inP 808 (by decide +kernel) rfl⟩, am_k107, Or.inl ⟨rfl, am_inP 564 (by decide +kernel) rfl⟩⟩
theorem am_l77 : am_okL (9, 56, 95, 1) := ⟨am_m95, by rfl, Or.inl (am_inP 809 (by decide +kernel) rfl), am_k95, Or.inr (Or.inl ⟨rfl, am_inP 811 (by decide +kernel) rfl, am_inS 15 4 (by decide +kernel)⟩)⟩
theorem am_l78 : am_okL (9, 59, 83, 1) := ⟨am_m83, by rfl, Or.inl (am_inP 815 (by decide +kernel) rfl), am_k83, Or.inr (Or.inl ⟨rfl, am_inP 816 (by decide +kernel) rfl, am_inP 817 (by decide +kernel) rfl⟩)⟩
theorem am_l79 : am_okL (7, 94, 84, 1) := ⟨am_m84, by rfl, Or.inl (am_inP 820 (by decide +kernel) rfl), am_k84, Or.inr (Or.inl ⟨rfl, am_inP 821 (by decide +kernel) rfl, am_inP 822 (by decide +kernel) rfl⟩)⟩
theorem am_l80 : am_okL (7, 104, 109, 0) := ⟨am_m109, by rfl, Or.inr ⟨"MarkupJudge", am_inP 824 (by decide +kernel) rfl⟩, am_k109, Or.inl ⟨rfl, am_inP 825 (by decide +kernel) rfl⟩⟩
theorem am_l81 : am_okL (7, 101, 74, 1) := ⟨am_m74, by rfl, Or.inl (am_inP 827 (by decide +kernel) rfl), am_k74, Or.inr (Or.inl ⟨rfl, am_inP 692 (by decide +kernel) rfl, am_inP 693 (by decide +kernel) rfl⟩)⟩
theorem am_l82 : am_okL (9, 62, 63, 1) := ⟨am_m63, by rfl, Or.inl (am_inP 830 (by decide +kernel) rfl), am_k63, Or.inr (Or.inl ⟨rfl, am_inP 831 (by decide +kernel) rfl, am_inP 832 (by decide +kernel) rfl⟩)⟩
theorem am_l83 : am_okL (6, 53, 75, 1) := ⟨am_m75, by rfl, Or.inl (am_inP 834 (by decide +kernel) rfl), am_k75, Or.inr (Or.inl ⟨rfl, am_inP 645 (by decide +kernel) rfl, am_inP 646 (by decide +kernel) rfl⟩)⟩
theorem am_l84 : am_okL (6, 57, 74, 1) := ⟨am_m74, by rfl, Or.inl (am_inP 835 (by decide +kernel) rfl), am_k74, Or.inr (Or.inl ⟨rfl, am_inP 692 (by decide +kernel) rfl, am_inP 693 (by decide +kernel) rfl⟩)⟩
theorem am_l85 : am_okL (6, 60, 66, 1) := ⟨am_m66, by rfl, Or.inl (am_inP 836 (by decide +kernel) rfl), am_k66, Or.inr (Or.inl ⟨rfl, am_inP 838 (by decide +kernel) rfl, am_inS 16 9 (by decide +kernel)⟩)⟩
theorem am_l86 : am_okL (6, 46, 65, 1) := ⟨am_m65, by rfl, Or.inl (am_inP 842 (by decide +kernel) rfl), am_k65, Or.inr (Or.inl ⟨rfl, am_inP 844 (by decide +kernel) rfl, am_inS 17 9 (by decide +kernel)⟩)⟩
theorem am_l87 : am_okL (9, 65, 96, 1) := ⟨am_m96, by rfl, Or.inl (am_inP 846 (by decide +kernel) rfl), am_k96, Or.inr (Or.inl ⟨rfl, am_inP 848 (by decide +kernel) rfl, am_inS 18 4 (by decide +kernel)⟩)⟩
theorem am_l88 : am_okL (3, 201, 5, 1) := ⟨am_m5, by rfl, Or.inl (am_inP 850 (by decide +kernel) rfl), am_k5, Or.inr (Or.inl ⟨rfl, am_inP 851 (by decide +kernel) rfl, am_inP 852 (by decide +kernel) rfl⟩)⟩
theorem am_l89 : am_okL (3, 83, 36, 1) := ⟨am_m36, by rfl, Or.inl (am_inP 858 (by decide +kernel) rfl), am_k36, Or.inr (Or.inl ⟨rfl, am_inP 860 (by decide +kernel) rfl, am_inS 19 9 (by decide +kernel)⟩)⟩
theorem am_l90 : am_okL (3, 151, 84, 1) := ⟨am_m84, by rfl, Or.inl (am_inP 864 (by decide +kernel) rfl), am_k84, Or.inr (Or.inl ⟨rfl, am_inP 821 (by decide +kernel) rfl, am_inP 822 (by decide +kernel) rfl⟩)⟩
theorem am_l91 : am_okL (3, 154, 73, 1) := ⟨am_m73, by rfl, Or.inl (am_inP 865 (by decide +kernel) rfl), am_k73, Or.inr (Or.inl ⟨rfl, am_inP 631 (by decide +kernel) rfl, am_inP 632 (by decide +kernel) rfl⟩)⟩
theorem am_l92 : am_okL (3, 157, 71, 1) := ⟨am_m71, by rfl, Or.inl (am_inP 866 (by decide +kernel) rfl), am_k71, Or.inr (Or.inl ⟨rfl, am_inP 533 (by decide +kernel) rfl, am_inP 534 (by decide +kernel) rfl⟩)⟩
theorem am_l93 : am_okL (3, 160, 60, 1) := ⟨am_m60, by rfl, Or.inl (am_inP 867 (by decide +kernel) rfl), am_k60, Or.inr (Or.inl ⟨rfl, am_inP 868 (by decide +kernel) rfl, am_inP 869 (by decide +kernel) rfl⟩)⟩
theorem am_l94 : am_okL (3, 86, 81, 1) := ⟨am_m81, by rfl, Or.inl (am_inP 871 (by decide +kernel) rfl), am_k81, Or.inr (Or.inl ⟨rfl, am_inP 567 (by decide +kernel) rfl, am_inP 568 (by decide +kernel) rfl⟩)⟩
theorem am_l95 : am_okL (10, 99, 86, 1) := ⟨am_m86, by rfl, Or.inl (am_inP 872 (by decide +kernel) rfl), am_k86, Or.inr (Or.inl ⟨rfl, am_inP 873 (by decide +kernel) rfl, am_inP 874 (by decide +kernel) rfl⟩)⟩
theorem am_l96 : am_okL (8, 31, 8, 1) := ⟨am_m8, by rfl, Or.inl (am_inP 876 (by decide +kernel) rfl), am_k8, Or.inr (Or.inl ⟨rfl, am_inP 877 (by decide +kernel) rfl, am_inP 878 (by decide +kernel) rfl⟩)⟩
theorem am_l97 : am_okL (8, 36, 88, 1) := ⟨am_m88, by rfl, Or.inl (am_inP 880 (by decide +kernel) rfl), am_k88, Or.inr (Or.inl ⟨rfl, am_inP 882 (by decide +kernel) rfl, am_inS 20 5 (by decide +kernel)⟩)⟩
theorem am_l98 : am_okL (8, 90, 74, 1) := ⟨am_m74, by rfl, Or.inl (am_inP 884 (by decide +kernel) rfl), am_k74, Or.inr (Or.inl ⟨rfl, am_inP 692 (by decide +kernel) rfl, am_inP 693 (by decide +kernel) rfl⟩)⟩
theorem am_l99 : am_okL (8, 93, 75, 1) := ⟨am_m75, by rfl, Or.inl (am_inP 885 (by decide +kernel) rfl), am_k75, Or.inr (Or.inl ⟨rfl, am_inP 645 (by decide +kernel) rfl, am_inP 646 (by decide +kernel) rfl⟩)⟩
theorem am_l100 : am_okL (8, 96, 61, 1) := ⟨am_m61, by rfl, Or.inl (am_inP 886 (by decide +kernel) rfl), am_k61, Or.inr (Or.inl ⟨rfl, am_inP 887 (by decide +kernel) rfl, am_inP 888 (by decide +kernel) rfl⟩)⟩
theorem am_l101 : am_okL (8, 99, 9, 1) := ⟨am_m9, by rfl, Or.inl (am_inP 890 (by decide +kernel) rfl), am_k9, Or.inr (Or.inl ⟨rfl, am_inP 891 (by decide +kernel) rfl, am_inP 892 (by decide +kernel) rfl⟩)⟩
theorem am_l102 : am_okL (8, 103, 78, 1) := ⟨am_m78, by rfl, Or.inl (am_inP 896 (by decide +kernel) rfl), am_k78, Or.inr (Or.inl ⟨rfl, am_inP 560 (by decide +kernel) rfl, am_inP 561 (by decide +kernel) rfl⟩)⟩
theorem am_l103 : am_okL (8, 46, 72, 1) := ⟨am_m72, by rfl, Or.inl (am_inP 898 (by decide +kernel) rfl), am_k72, Or.inr (Or.inl ⟨rfl, am_inP 729 (by decide +kernel) rfl, am_inP 730 (by decide +kernel) rfl⟩)⟩
theorem am_l104 : am_okL (8, 106, 108, 0) := ⟨am_m108, by rfl, Or.inr ⟨"MarkupJudge", am_inP 899 (by decide +kernel) rfl⟩, am_k108, Or.inl ⟨rfl, am_inP 649 (by decide +kernel) rfl⟩⟩
theorem am_l105 : am_okL (8, 110, 89, 1) := ⟨am_m89, by rfl, Or.inl (am_inP 900 (by decide +kernel) rfl), am_k89, Or.inr (Or.inl ⟨rfl, am_inP 902 (by decide +kernel) rfl, am_inS 21 5 (by decide +kernel)⟩)⟩
theorem am_l106 : am_okL (8, 122, 2, 1) := ⟨am_m2, by rfl, Or.inl (am_inP 906 (by decide +kernel) rfl), am_k2, Or.inr (Or.inl ⟨rfl, am_inP 779 (by decide +kernel) rfl, am_inP 780 (by decide +kernel) rfl⟩)⟩
theorem am_l107 : am_okL (8, 131, 94, 1) := ⟨am_m94, by rfl, Or.inl (am_inP 907 (by decide +kernel) rfl), am_k94, Or.inr (Or.inl ⟨rfl, am_inP 793 (by decide +kernel) rfl, am_inP 794 (by decide +kernel) rfl⟩)⟩
theorem am_l108 : am_okL (8, 143, 10, 1) := ⟨am_m10, by rfl, Or.inl (am_inP 908 (by decide +kernel) rfl), am_k10, Or.inr (Or.inl ⟨rfl, am_inP 909 (by decide +kernel) rfl, am_inP 910 (by decide +kernel) rfl⟩)⟩
theorem am_l109 : am_okL (1, 40, 9, 1) := ⟨am_m9, by rfl, Or.inl (am_inP 912 (by decide +kernel) rfl), am_k9, Or.inr (Or.inl ⟨rfl, am_inP 891 (by decide +kernel) rfl, am_inP 892 (by decide +kernel) rfl⟩)⟩
theorem am_l110 : am_okL (8, 67, 77, 1) := ⟨am_m77, by rfl, Or.inl (am_inP 915 (by decide +kernel) rfl), am_k77, Or.inr (Or.inl ⟨rfl, am_inP 572 (by decide +kernel) rfl, am_inP 573 (by decide +kernel) rfl⟩)⟩
theorem am_l111 : am_okL (8, 116, 90, 1) := ⟨am_m90, by rfl, Or.inl (am_inP 916 (by decide +kernel) rfl), am_k90, Or.inr (Or.inl ⟨rfl, am_inP 918 (by decide +kernel) rfl, am_inS 22 5 (by decide +kernel)⟩)⟩
theorem am_l112 : am_okL (8, 156, 6, 1) := ⟨am_m6, by rfl, Or.inl (am_inP 920 (by decide +kernel) rfl), am_k6, Or.inr (Or.inl ⟨rfl, am_inP 921 (by decide +kernel) rfl, am_inP 922 (by decide +kernel) rfl⟩)⟩
theorem am_l113 : am_okL (8, 119, 92, 1) := ⟨am_m92, by rfl, Or.inl (am_inP 924 (by decide +kernel) rfl), am_k92, Or.inr (Or.inl ⟨rfl, am_inP 926 (by decide +kernel) rfl, am_inS 23 5 (by decide +kernel)⟩)⟩
theorem am_l114 : am_okL (8, 168, 62, 1) := ⟨am_m62, by rfl, Or.inl (am_inP 928 (by decide +kernel) rfl), am_k62, Or.inr (Or.inl ⟨rfl, am_inP 929 (by decide +kernel) rfl, am_inP 930 (by decide +kernel) rfl⟩)⟩
theorem am_l115 : am_okL (8, 52, 64, 1) := ⟨am_m64, by rfl, Or.inl (am_inP 932 (by decide +kernel) rfl), am_k64, Or.inr (Or.inl ⟨rfl, am_inP 800 (by decide +kernel) rfl, am_inP 801 (by decide +kernel) rfl⟩)⟩
theorem am_l116 : am_okL (8, 55, 87, 1) := ⟨am_m87, by rfl, Or.inl (am_inP 933 (by decide +kernel) rfl), am_k87, Or.inr (Or.inl ⟨rfl, am_inP 935 (by decide +kernel) rfl, am_inS 24 5 (by decide +kernel)⟩)⟩
theorem am_l117 : am_okL (8, 84, 83, 1) := ⟨am_m83, by rfl, Or.inl (am_inP 937 (by decide +kernel) rfl), am_k83, Or.inr (Or.inl ⟨rfl, am_inP 816 (by decide +kernel) rfl, am_inP 817 (by decide +kernel) rfl⟩)⟩
theorem am_l118 : am_okL (8, 87, 63, 1) := ⟨am_m63, by rfl, Or.inl (am_inP 938 (by decide +kernel) rfl), am_k63, Or.inr (Or.inl ⟨rfl, am_inP 831 (by decide +kernel) rfl, am_inP 832 (by decide +kernel) rfl⟩)⟩
theorem am_l119 : am_okL (8, 61, 11, 1) := ⟨am_m11, by rfl, Or.inl (am_inP 939 (by decide +kernel) rfl), am_k11, Or.inr (Or.inl ⟨rfl, am_inP 940 (by decide +kernel) rfl, am_inP 941 (by decide +kernel) rfl⟩)⟩
theorem am_l120 : am_okL (8, 58, 73, 1) := ⟨am_m73, by rfl, Or.inl (am_inP 943 (by decide +kernel) rfl), am_k73, Or.inr (Or.inl ⟨rfl, am_inP 631 (by decide +kernel) rfl, am_inP 632 (by decide +kernel) rfl⟩)⟩
theorem am_l121 : am_okL (8, 71, 91, 1) := ⟨am_m91, by rfl, Or.inl (am_inP 945 (by decide +kernel) rfl), am_k91, Or.inr (Or.inl ⟨rfl, am_inP 947 (by decide +kernel) rfl, am_inS 25 5 (by decide +kernel)⟩)⟩
theorem am_l122 : am_okL (8, 74, 81, 1) := ⟨am_m81, by rfl, Or.inl (am_inP 949 (by decide +kernel) rfl), am_k81, Or.inr (Or.inl ⟨rfl, am_inP 567 (by decide +kernel) rfl, am_inP 568 (by decide +kernel) rfl⟩)⟩
theorem am_l123 : am_okL (8, 78, 82, 1) := ⟨am_m82, by rfl, Or.inl (am_inP 950 (by decide +kernel) rfl), am_k82, Or.inr (Or.inl ⟨rfl, am_inP 555 (by decide +kernel) rfl, am_inP 556 (by decide +kernel) rfl⟩)⟩
theorem am_l124 : am_okL (10, 100, 17, 1) := ⟨am_m17, by rfl, Or.inl (am_inP 951 (by decide +kernel) rfl), am_k17, Or.inr (Or.inl ⟨rfl, am_inP 952 (by decide +kernel) rfl, am_inP 953 (by decide +kernel) rfl⟩)⟩
theorem am_l125 : am_okL (2, 47, 19, 1) := ⟨am_m19, by rfl, Or.inl (am_inP 955 (by decide +kernel) rfl), am_k19, Or.inr (Or.inl ⟨rfl, am_inP 957 (by decide +kernel) rfl, am_inS 26 8 (by decide +kernel)⟩)⟩
theorem am_l126 : am_okL (2, 63, 18, 1) := ⟨am_m18, by rfl, Or.inl (am_inP 959 (by decide +kernel) rfl), am_k18, Or.inr (Or.inl ⟨rfl, am_inP 961 (by decide +kernel) rfl, am_inS 27 8 (by decide +kernel)⟩)⟩
theorem am_l127 : am_okL (2, 71, 47, 1) := ⟨am_m47, by rfl, Or.inl (am_inP 963 (by decide +kernel) rfl), am_k47, Or.inr (Or.inl ⟨rfl, am_inP 964 (by decide +kernel) rfl, am_inP 965 (by decide +kernel) rfl⟩)⟩
theorem am_l128 : am_okL (4, 34, 48, 1) := ⟨am_m48, by rfl, Or.inl (am_inP 967 (by decide +kernel) rfl), am_k48, Or.inr (Or.inl ⟨rfl, am_inP 969 (by decide +kernel) rfl, am_inS 28 6 (by decide +kernel)⟩)⟩
theorem am_l129 : am_okL (2, 55, 20, 1) := ⟨am_m20, by rfl, Or.inl (am_inP 971 (by decide +kernel) rfl), am_k20, Or.inr (Or.inl ⟨rfl, am_inP 973 (by decide +kernel) rfl, am_inS 29 8 (by decide +kernel)⟩)⟩
theorem am_l130 : am_okL (2, 80, 22, 1) := ⟨am_m22, by rfl, Or.inl (am_inP 975 (by decide +kernel) rfl), am_k22, Or.inr (Or.inl ⟨rfl, am_inP 977 (by decide +kernel) rfl, am_inS 30 8 (by decide +kernel)⟩)⟩
theorem am_l131 : am_okL (2, 99, 21, 1) := ⟨am_m21, by rfl, Or.inl (am_inP 979 (by decide +kernel) rfl), am_k21, Or.inr (Or.inl ⟨rfl, am_inP 981 (by decide +kernel) rfl, am_inS 31 8 (by decide +kernel)⟩)⟩
theorem am_l132 : am_okL (2, 103, 49, 1) := ⟨am_m49, by rfl, Or.inl (am_inP 983 (by decide +kernel) rfl), am_k49, Or.inr (Or.inl ⟨rfl, am_inP 984 (by decide +kernel) rfl, am_inP 985 (by decide +kernel) rfl⟩)⟩
theorem am_l133 : am_okL (4, 38, 50, 1) := ⟨am_m50, by rfl, Or.inl (am_inP 987 (by decide +kernel) rfl), am_k50, Or.inr (Or.inl ⟨rfl, am_inP 989 (by decide +kernel) rfl, am_inS 32 6 (by decide +kernel)⟩)⟩
theorem am_l134 : am_okL (2, 110, 25, 1) := ⟨am_m25, by rfl, Or.inl (am_inP 991 (by decide +kernel) rfl), am_k25, Or.inr (Or.inl ⟨rfl, am_inP 993 (by decide +kernel) rfl, am_inS 33 8 (by decide +kernel)⟩)⟩
theorem am_l135 : am_okL (2, 133, 26, 1) := ⟨am_m26, by rfl, Or.inl (am_inP 995 (by decide +kernel) rfl), am_k26, Or.inr (Or.inl ⟨rfl, am_inP 997 (by decide +kernel) rfl, am_inS 34 8 (by decide +kernel)⟩)⟩
theorem am_l136 : am_okL (2, 86, 27, 1) := ⟨am_m27, by rfl, Or.inl (am_inP 999 (by decide +kernel) rfl), am_k27, Or.inr (Or.inl ⟨rfl, am_inP 1001 (by decide +kernel) rfl, am_inS 35 8 (by decide +kernel)⟩)⟩
theorem am_l137 : am_okL (2, 146, 12, 1) := ⟨am_m12, by rfl, Or.inl (am_inP 1003 (by decide +kernel) rfl), am_k12, Or.inr (Or.inl ⟨rfl, am_inP 1004 (by decide +kernel) rfl, am_inP 1005 (by decide +kernel) rfl⟩)⟩
theorem am_l138 : am_okL (2, 159, 28, 1) := ⟨am_m28, by rfl, Or.inl (am_inP 1007 (by decide +kernel) rfl), am_k28, Or.inr (Or.inl ⟨rfl, am_inP 1009 (by decide +kernel) rfl, am_inS 36 8 (by decide +kernel)⟩)⟩
theorem am_l139 : am_okL (2, 177, 110, 0) := ⟨am_m110, by rfl, Or.inr ⟨"MarkupJudge", am_inP 1011 (by decide +kernel) rfl⟩, am_k110, Or.inl ⟨rfl, am_inP 768 (by decide +kernel) rfl⟩⟩
theorem am_l140 : am_okL (2, 163, 14, 1) := ⟨am_m14, by rfl, Or.inl (am_inP 1012 (by decide +kernel) rfl), am_k14, Or.inr (Or.inl ⟨rfl, am_inP 1013 (by decide +kernel) rfl, am_inP 1014 (by decide +kernel) rfl⟩)⟩
theorem am_l141 : am_okL (1, 54, 110, 0) := ⟨am_m110, by rfl, Or.inr ⟨"MarkupJudge", am_inP 1016 (by decide +kernel) rfl⟩, am_k110, Or.inl ⟨rfl, am_inP 768 (by decide +kernel) rfl⟩⟩
theorem am_l142 : am_okL (2, 166, 15, 1) := ⟨am_m15, by rfl, Or.inl (am_inP 1017 (by decide +kernel) rfl), am_k15, Or.inr (Or.inl ⟨rfl, am_inP 1018 (by decide +kernel) rfl, am_inP 1019 (by decide +kernel) rfl⟩)⟩
theorem am_l143 : am_okL (1, 57, 108, 0) := ⟨am_m108, by rfl, Or.inr ⟨"MarkupJudge", am_inP 1021 (by decide +kernel) rfl⟩, am_k108, Or.inl ⟨rfl, am_inP 649 (by decide +kernel) rfl⟩⟩
theorem am_l144 : am_okL (2, 169, 29, 1) := ⟨am_m29, by rfl, Or.inl (am_inP 1022 (by decide +kernel) rfl), am_k29, Or.inr (Or.inl ⟨rfl, am_inP 1024 (by decide +kernel) rfl, am_inS 37 8 (by decide +kernel)⟩)⟩
theorem am_l145 : am_okL (2, 90, 23, 1) := ⟨am_m23, by rfl, Or.inl (am_inP 1026 (by decide +kernel) rfl), am_k23, Or.inr (Or.inl ⟨rfl, am_inP 1028 (by decide +kernel) rfl, am_inS 38 8 (by decide +kernel)⟩)⟩
theorem am_l146 : am_okL (2, 113, 13, 1) := ⟨am_m13, by rfl, Or.inl (am_inP 1030 (by decide +kernel) rfl), am_k13, Or.inr (Or.inl ⟨rfl, am_inP 1031 (by decide +kernel) rfl, am_inP 1032 (by decide +kernel) rfl⟩)⟩
theorem am_l147 : am_okL (1, 50, 107, 0) := ⟨am_m107, by rfl, Or.inr ⟨"MarkupJudge", am_inP 1034 (by decide +kernel) rfl⟩, am_k107, Or.inl ⟨rfl, am_inP 564 (by decide +kernel) rfl⟩⟩
theorem am_l148 : am_okL (2, 117, 51, 1) := ⟨am_m51, by rfl, Or.inl (am_inP 1035 (by decide +kernel) rfl), am_k51, Or.inr (Or.inl ⟨rfl, am_inP 1036 (by decide +kernel) rfl, am_inP 1037 (by decide +kernel) rfl⟩)⟩
theorem am_l149 : am_okL (2, 93, 24, 1) := ⟨am_m24, by rfl, Or.inl (am_inP 1039 (by decide +kernel) rfl), am_k24, Or.inr (Or.inl ⟨rfl, am_inP 1041 (by decide +kernel) rfl, am_inS 39 8 (by decide +kernel)⟩)⟩
theorem am_l150 : am_okL (12, 60, 182, 0) := ⟨am_m182, by rfl, Or.inl (am_inP 1043 (by decide +kernel) rfl), am_k182, Or.inl ⟨rfl, am_inP 1044 (by decide +kernel) rfl⟩⟩
theorem am_l151 : am_okL (12, 23, 102, 1) := ⟨am_m102, by rfl, Or.inl (am_inP 1047 (by decide +kernel) rfl), am_k102, Or.inr (Or.inl ⟨rfl, am_inP 1048 (by decide +kernel) rfl, am_inP 1049 (by decide +kernel) rfl⟩)⟩
theorem am_l152 : am_okL (12, 64, 183, 0) := ⟨am_m183, by rfl, Or.inl (am_inP 1066 (by decide +kernel) rfl), am_k183, Or.inl ⟨rfl, am_inP 1067 (by decide +kernel) rfl⟩⟩
theorem am_l153 : am_okL (12, 29, 103, 1) := ⟨am_m103, by rfl, Or.inl (am_inP 1069 (by decide +kernel) rfl), am_k103, Or.inr (Or.inl ⟨rfl, am_inP 1070 (by decide +kernel) rfl, am_inP 1071 (by decide +kernel) rfl⟩)⟩
theorem am_l154 : am_okL (12, 35, 111, 2) := ⟨am_m111, by rfl, Or.inl (am_inP 1075 (by decide +kernel) rfl), am_k111, Or.inr (Or.inr ⟨rfl, am_inP 1076 (by decide +kernel) rfl, rfl, rfl, rfl⟩)⟩
theorem am_l155 : am_okL (12, 44, 112, 1) := ⟨am_m112, by rfl, Or.inl (am_inP 1276 (by decide +kernel) rfl), am_k112, Or.inr (Or.inl ⟨rfl, am_inP 1277 (by decide +kernel) rfl, am_inP 1278 (by decide +kernel) rfl⟩)⟩
theorem am_l156 : am_okL (12, 43, 115, 1) := ⟨am_m115, by rfl, Or.inl (am_inP 1280 (by decide +kernel) rfl), am_k115, Or.inr (Or.inl ⟨rfl, am_inP 1281 (by decide +kernel) rfl, am_inP 1282 (by decide +kernel) rfl⟩)⟩
theorem am_l157 : am_okL (11, 150, 113, 1) := ⟨am_m113, by rfl, Or.inl (am_inP 1284 (by decide +kernel) rfl), am_k113, Or.inr (Or.inl ⟨rfl, am_inP 1286 (by decide +kernel) rfl, am_inS 40 65 (by decide +kernel)⟩)⟩
theorem am_l158 : am_okL (12, 51, 116, 1) := ⟨am_m116, by rfl, Or.inl (am_inP 1289 (by decide +kernel) rfl), am_k116, Or.inr (Or.inl ⟨rfl, am_inP 1290 (by decide +kernel) rfl, am_inP 1291 (by decide +kernel) rfl⟩)⟩
theorem am_l159 : am_okL (12, 55, 174, 1) := ⟨am_m174, by rfl, Or.inl (am_inP 1293 (by decide +kernel) rfl), am_k174, Or.inr (Or.inl ⟨rfl, am_inP 1294 (by decide +kernel) rfl, am_inP 1295 (by decide +kernel) rfl⟩)⟩
theorem am_l160 : am_okL (11, 416, 173, 1) := ⟨am_m173, by rfl, Or.inl (am_inP 1297 (by decide +kernel) rfl), am_k173, Or.inr (Or.inl ⟨rfl, am_inP 1299 (by decide +kernel) rfl, am_inS 41 65 (by decide +kernel)⟩)⟩
theorem am_l161 : am_okL (11, 419, 121, 1) := ⟨am_m121, by rfl, Or.inl (am_inP 1301 (by decide +kernel) rfl), am_k121, Or.inr (Or.inl ⟨rfl, am_inP 1303 (by decide +kernel) rfl, am_inS 42 65 (by decide +kernel)⟩)⟩
theorem am_l162 : am_okL (11, 165, 117, 1) := ⟨am_m117, by rfl, Or.inl (am_inP 1305 (by decide +kernel) rfl), am_k117, Or.inr (Or.inl ⟨rfl, am_inP 1307 (by decide +kernel) rfl, am_inS 43 65 (by decide +kernel)⟩)⟩
theorem am_l163 : am_okL (11, 172, 120, 1) := ⟨am_m120, by rfl, Or.inl (am_inP 1309 (by decide +kernel) rfl), am_k120, Or.inr (Or.inl ⟨rfl, am_inP 1311 (by decide +kernel) rfl, am_inS 44 65 (by decide +kernel)⟩)⟩
theorem am_l164 : am_okL (11, 175, 118, 0) := ⟨am_m118, by rfl, Or.inl (am_inP 1313 (by decide +kernel) rfl), am_k118, Or.inl ⟨rfl, am_inP 1314 (by decide +kernel) rfl⟩⟩
theorem am_l165 : am_okL (11, 422, 170, 1) := ⟨am_m170, by rfl, Or.inl (am_inP 1319 (by decide +kernel) rfl), am_k170, Or.inr (Or.inl ⟨rfl, am_inP 1321 (by decide +kernel) rfl, am_inS 45 65 (by decide +kernel)⟩)⟩
theorem am_l166 : am_okL (11, 195, 126, 1) := ⟨am_m126, by rfl, Or.inl (am_inP 1323 (by decide +kernel) rfl), am_k126, Or.inr (Or.inl ⟨rfl, am_inP 1325 (by decide +kernel) rfl, am_inS 46 65 (by decide +kernel)⟩)⟩
theorem am_l167 : am_okL (11, 182, 122, 1) := ⟨am_m122, by rfl, Or.inl (am_inP 1327 (by decide +kernel) rfl), am_k122, Or.inr (Or.inl ⟨rfl, am_inP 1329 (by decide +kernel) rfl, am_inS 47 65 (by decide +kernel)⟩)⟩
theorem am_l168 : am_okL (11, 192, 119, 0) := ⟨am_m119, by rfl, Or.inl (am_inP 1331 (by decide +kernel) rfl), am_k119, Or.inl ⟨rfl, am_inP 1332 (by decide +kernel) rfl⟩⟩
theorem am_l169 : am_okL (11, 186, 123, 1) := ⟨am_m123, by rfl, Or.inl (am_inP 1334 (by decide +kernel) rfl), am_k123, Or.inr (Or.inl ⟨rfl, am_inP 1336 (by decide +kernel) rfl, am_inS 48 65 (by decide +kernel)⟩)⟩
theorem am_l170 : am_okL (11, 410, 138, 1) := ⟨am_m138, by rfl, Or.inl (am_inP 1338 (by decide +kernel) rfl), am_k138, Or.inr (Or.inl ⟨rfl, am_inP 1340 (by decide +kernel) rfl, am_inS 49 65 (by decide +kernel)⟩)⟩
theorem am_l171 : am_okL (11, 210, 125, 1) := ⟨am_m125, by rfl, Or.inl (am_inP 1343 (by decide +kernel) rfl), am_k125, Or.inr (Or.inl ⟨rfl, am_inP 1345 (by decide +kernel) rfl, am_inS 50 65 (by decide +kernel)⟩)⟩
theorem am_l172 : am_okL (11, 189, 124, 1) := ⟨am_m124, by rfl, Or.inl (am_inP 1347 (by decide +kernel) rfl), am_k124, Or.inr (Or.inl ⟨rfl, am_inP 1349 (by decide +kernel) rfl, am_inS 51 65 (by decide +kernel)⟩)⟩
theorem am_l173 : am_okL (11, 240, 127, 1) := ⟨am_m127, by rfl, Or.inl (am_inP 1351 (by decide +kernel) rfl), am_k127, Or.inr (Or.inl ⟨rfl, am_inP 1353 (by decide +kernel) rfl, am_inS 52 65 (by decide +kernel)⟩)⟩
theorem am_l174 : am_okL (11, 202, 128, 1) := ⟨am_m128, by rfl, Or.inl (am_inP 1355 (by decide +kernel) rfl), am_k128, Or.inr (Or.inl ⟨rfl, am_inP 1357 (by decide +kernel) rfl, am_inS 53 65 (by decide +kernel)⟩)⟩
theorem am_l175 : am_okL (11, 246, 137, 1) := ⟨am_m137, by rfl, Or.inl (am_inP 1359 (by decide +kernel) rfl), am_k137, Or.inr (Or.inl ⟨rfl, am_inP 1361 (by decide +kernel) rfl, am_inS 54 65 (by decide +kernel)⟩)⟩
theorem am_l176 : am_okL (11, 249, 139, 1) := ⟨am_m139, by rfl, Or.inl (am_inP 1365 (by decide +kernel) rfl), am_k139, Or.inr (Or.inl ⟨rfl, am_inP 1367 (by decide +kernel) rfl, am_inS 55 65 (by decide +kernel)⟩)⟩
theorem am_l177 : am_okL (11, 256, 129, 1) := ⟨am_m129, by rfl, Or.inl (am_inP 1369 (by decide +kernel) rfl), am_k129, Or.inr (Or.inl ⟨rfl, am_inP 1371 (by decide +kernel) rfl, am_inS 56 65 (by decide +kernel)⟩)⟩
theorem am_l178 : am_okL (11, 261, 143, 1) := ⟨am_m143, by rfl, Or.inl (am_inP 1374 (by decide +kernel) rfl), am_k143, Or.inr (Or.inl ⟨rfl, am_inP 1376 (by decide +kernel) rfl, am_inS 57 65 (by decide +kernel)⟩)⟩
theorem am_l179 : am_okL (11, 294, 144, 1) := ⟨am_m144, by rfl, Or.inl (am_inP 1378 (by decide +kernel) rfl), am_k144, Or.inr (Or.inl ⟨rfl, am_inP 1380 (by decide +kernel) rfl, am_inS 58 65 (by decide +kernel)⟩)⟩
theorem am_l180 : am_okL (11, 300, 145, 1) := ⟨am_m145, by rfl, Or.inl (am_inP 1382 (by decide +kernel) rfl), am_k145, Or.inr (Or.inl ⟨rfl, am_inP 1384 (by decide +kernel) rfl, am_inS 59 65 (by decide +kernel)⟩)⟩
theorem am_l181 : am_okL (11, 304, 141, 1) := ⟨am_m141, by rfl, Or.inl (am_inP 1386 (by decide +kernel) rfl), am_k141, Or.inr (Or.inl ⟨rfl, am_inP 1388 (by decide +kernel) rfl, am_inS 60 65 (by decide +kernel)⟩)⟩
theorem am_l182 : am_okL (11, 282, 142, 1) := ⟨am_m142, by rfl, Or.inl (am_inP 1394 (by decide +kernel) rfl), am_k142, Or.inr (Or.inl ⟨rfl, am_inP 1396 (by decide +kernel) rfl, am_inS 61 65 (by decide +kernel)⟩)⟩
theorem am_l183 : am_okL (11, 288, 130, 0) := ⟨am_m130, by rfl, Or.inl (am_inP 1398 (by decide +kernel) rfl), am_k130, Or.inl ⟨rfl, am_inP 1399 (by decide +kernel) rfl⟩⟩
theorem am_l184 : am_okL (11, 312, 135, 1) := ⟨am_m135, by rfl, Or.inl (am_inP 1404 (by decide +kernel) rfl), am_k135, Or.inr (Or.inl ⟨rfl, am_inP 1406 (by decide +kernel) rfl, am_inS 62 65 (by decide +kernel)⟩)⟩
theorem am_l185 : am_okL (11, 228, 134, 1) := ⟨am_m134, by rfl, Or.inl (am_inP 1408 (by decide +kernel) rfl), am_k134, Or.inr (Or.inl ⟨rfl, am_inP 1410 (by decide +kernel) rfl, am_inS 63 65 (by decide +kernel)⟩)⟩
theorem am_l186 : am_okL (11, 231, 132, 1) := ⟨am_m132, by rfl, Or.inl (am_inP 1412 (by decide +kernel) rfl), am_k132, Or.inr (Or.inl ⟨rfl, am_inP 1414 (by decide +kernel) rfl, am_inS 64 65 (by decide +kernel)⟩)⟩
theorem am_l187 : am_okL (11, 199, 131, 1) := ⟨am_m131, by rfl, Or.inl (am_inP 1416 (by decide +kernel) rfl), am_k131, Or.inr (Or.inl ⟨rfl, am_inP 1418 (by decide +kernel) rfl, am_inS 65 65 (by decide +kernel)⟩)⟩
theorem am_l188 : am_okL (11, 205, 133, 1) := ⟨am_m133, by rfl, Or.inl (am_inP 1420 (by decide +kernel) rfl), am_k133, Or.inr (Or.inl ⟨rfl, am_inP 1422 (by decide +kernel) rfl, am_inS 66 65 (by decide +kernel)⟩)⟩
theorem am_l189 : am_okL (11, 315, 136, 1) := ⟨am_m136, by rfl, Or.inl (am_inP 1426 (by decide +kernel) rfl), am_k136, Or.inr (Or.inl ⟨rfl, am_inP 1428 (by decide +kernel) rfl, am_inS 67 65 (by decide +kernel)⟩)⟩
theorem am_l190 : am_okL (11, 266, 146, 1) := ⟨am_m146, by rfl, Or.inl (am_inP 1431 (by decide +kernel) rfl), am_k146, Or.inr (Or.inl ⟨rfl, am_inP 1433 (by decide +kernel) rfl, am_inS 68 65 (by decide +kernel)⟩)⟩
theorem am_l191 : am_okL (11, 322, 147, 1) := ⟨am_m147, by rfl, Or.inl (am_inP 1437 (by decide +kernel) rfl), am_k147, Or.inr (Or.inl ⟨rfl, am_inP 1439 (by decide +kernel) rfl, am_inS 69 65 (by decide +kernel)⟩)⟩
theorem am_l192 : am_okL (11, 325, 152, 1) := ⟨am_m152, by rfl, Or.inl (am_inP 1442 (by decide +kernel) rfl), am_k152, Or.inr (Or.inl ⟨rfl, am_inP 1444 (by decide +kernel) rfl, am_inS 70 65 (by decide +kernel)⟩)⟩
theorem am_l193 : am_okL (11, 345, 150, 1) := ⟨am_m150, by rfl, Or.inl (am_inP 1446 (by decide +kernel) rfl), am_k150, Or.inr (Or.inl ⟨rfl, am_inP 1448 (by decide +kernel) rfl, am_inS 71 65 (by decide +kernel)⟩)⟩
theorem am_l194 : am_okL (11, 348, 151, 1) := ⟨am_m151, by rfl, Or.inl (am_inP 1450 (by decide +kernel) rfl), am_k151, Or.inr (Or.inl ⟨rfl, am_inP 1452 (by decide +kernel) rfl, am_inS 72 65 (by decide +kernel)⟩)⟩
theorem am_l195 : am_okL (11, 351, 153, 1) := ⟨am_m153, by rfl, Or.inl (am_inP 1454 (by decide +kernel) rfl), am_k153, Or.inr (Or.inl ⟨rfl, am_inP 1456 (by decide +kernel) rfl, am_inS 73 65 (by decide +kernel)⟩)⟩
theorem am_l196 : am_okL (11, 354, 148, 1) := ⟨am_m148, by rfl, Or.inl (am_inP 1458 (by decide +kernel) rfl), am_k148, Or.inr (Or.inl ⟨rfl, am_inP 1460 (by decide +kernel) rfl, am_inS 74 65 (by decide +kernel)⟩)⟩
theorem am_l197 : am_okL (11, 357, 149, 1) := ⟨am_m149, by rfl, Or.inl (am_inP 1462 (by decide +kernel) rfl), am_k149, Or.inr (Or.inl ⟨rfl, am_inP 1464 (by decide +kernel) rfl, am_inS 75 65 (by decide +kernel)⟩)⟩
theorem am_l198 : am_okL (11, 331, 155, 1) := ⟨am_m155, by rfl, Or.inl (am_inP 1466 (by decide +kernel) rfl), am_k155, Or.inr (Or.inl ⟨rfl, am_inP 1468 (by decide +kernel) rfl, am_inS 76 65 (by decide +kernel)⟩)⟩
theorem am_l199 : am_okL (11, 360, 154, 1) := ⟨am_m154, by rfl, Or.inl (am_inP 1470 (by decide +kernel) rfl), am_k154, Or.inr (Or.inl ⟨rfl, am_inP 1472 (by decide +kernel) rfl, am_inS 77 65 (by decide +kernel)⟩)⟩
theorem am_l200 : am_okL (11, 271, 140, 1) := ⟨am_m140, by rfl, Or.inl (am_inP 1475 (by decide +kernel) rfl), am_k140, Or.inr (Or.inl ⟨rfl, am_inP 1477 (by decide +kernel) rfl, am_inS 78 65 (by decide +kernel)⟩)⟩
theorem am_l201 : am_okL (11, 404, 164, 1) := ⟨am_m164, by rfl, Or.inl (am_inP 1479 (by decide +kernel) rfl), am_k164, Or.inr (Or.inl ⟨rfl, am_inP 1481 (by decide +kernel) rfl, am_inS 79 65 (by decide +kernel)⟩)⟩
theorem am_l202 : am_okL (11, 386, 163, 1) := ⟨am_m163, by rfl, Or.inl (am_inP 1483 (by decide +kernel) rfl), am_k163, Or.inr (Or.inl ⟨rfl, am_inP 1485 (by decide +kernel) rfl, am_inS 80 65 (by decide +kernel)⟩)⟩
theorem am_l203 : am_okL (11, 370, 156, 1) := ⟨am_m156, by rfl, Or.inl (am_inP 1487 (by decide +kernel) rfl), am_k156, Or.inr (Or.inl ⟨rfl, am_inP 1489 (by decide +kernel) rfl, am_inS 81 65 (by decide +kernel)⟩)⟩
theorem am_l204 : am_okL (11, 389, 165, 1) := ⟨am_m165, by rfl, Or.inl (am_inP 1491 (by decide +kernel) rfl), am_k165, Or.inr (Or.inl ⟨rfl, am_inP 1493 (by decide +kernel) rfl, am_inS 82 65 (by decide +kernel)⟩)⟩
theorem am_l205 : am_okL (11, 398, 162, 1) := ⟨am_m162, by rfl, Or.inl (am_inP 1495 (by decide +kernel) rfl), am_k162, Or.inr (Or.inl ⟨rfl, am_inP 1497 (by decide +kernel) rfl, am_inS 83 65 (by decide +kernel)⟩)⟩
theorem am_l206 : am_okL (11, 374, 157, 1) := ⟨am_m157, by rfl, Or.inl (am_inP 1499 (by decide +kernel) rfl), am_k157, Or.inr (Or.inl ⟨rfl, am_inP 1501 (by decide +kernel) rfl, am_inS 84 65 (by decide +kernel)⟩)⟩
theorem am_l207 : am_okL (11, 377, 160, 1) := ⟨am_m160, by rfl, Or.inl (am_inP 1503 (by decide +kernel) rfl), am_k160, Or.inr (Or.inl ⟨rfl, am_inP 1505 (by decide +kernel) rfl, am_inS 85 65 (by decide +kernel)⟩)⟩
theorem am_l208 : am_okL (11, 380, 161, 1) := ⟨am_m161, by rfl, Or.inl (am_inP 1507 (by decide +kernel) rfl), am_k161, Or.inr (Or.inl ⟨rfl, am_inP 1509 (by decide +kernel) rfl, am_inS 86 65 (by decide +kernel)⟩)⟩
theorem am_l209 : am_okL (11, 383, 159, 1) := ⟨am_m159, by rfl, Or.inl (am_inP 1511 (by decide +kernel) rfl), am_k159, Or.inr (Or.inl ⟨rfl, am_inP 1513 (by decide +kernel) rfl, am_inS 87 65 (by decide +kernel)⟩)⟩
theorem am_l210 : am_okL (11, 392, 166, 1) := ⟨am_m166, by rfl, Or.inl (am_inP 1515 (by decide +kernel) rfl), am_k166, Or.inr (Or.inl ⟨rfl, am_inP 1517 (by decide +kernel) rfl, am_inS 88 65 (by decide +kernel)⟩)⟩
theorem am_l211 : am_okL (11, 395, 167, 1) := ⟨am_m167, by rfl, Or.inl (am_inP 1519 (by decide +kernel) rfl), am_k167, Or.inr (Or.inl ⟨rfl, am_inP 1521 (by decide +kernel) rfl, am_inS 89 65 (by decide +kernel)⟩)⟩
theorem am_l212 : am_okL (11, 426, 169, 1) := ⟨am_m169, by rfl, Or.inl (am_inP 1523 (by decide +kernel) rfl), am_k169, Or.inr (Or.inl ⟨rfl, am_inP 1525 (by decide +kernel) rfl, am_inS 90 65 (by decide +kernel)⟩)⟩
theorem am_l213 : am_okL (11, 401, 168, 1) := ⟨am_m168, by rfl, Or.inl (am_inP 1527 (by decide +kernel) rfl), am_k168, Or.inr (Or.inl ⟨rfl, am_inP 1529 (by decide +kernel) rfl, am_inS 91 65 (by decide +kernel)⟩)⟩
theorem am_l214 : am_okL (11, 407, 158, 1) := ⟨am_m158, by rfl, Or.inl (am_inP 1531 (by decide +kernel) rfl), am_k158, Or.inr (Or.inl ⟨rfl, am_inP 1533 (by decide +kernel) rfl, am_inS 92 65 (by decide +kernel)⟩)⟩
theorem am_l215 : am_okL (11, 429, 172, 1) := ⟨am_m172, by rfl, Or.inl (am_inP 1535 (by decide +kernel) rfl), am_k172, Or.inr (Or.inl ⟨rfl, am_inP 1537 (by decide +kernel) rfl, am_inS 93 65 (by decide +kernel)⟩)⟩
theorem am_l216 : am_okL (11, 413, 171, 1) := ⟨am_m171, by rfl, Or.inl (am_inP 1539 (by decide +kernel) rfl), am_k171, Or.inr (Or.inl ⟨rfl, am_inP 1541 (by decide +kernel) rfl, am_inS 94 65 (by decide +kernel)⟩)⟩
theorem am_l217 : am_okL (12, 59, 175, 1) := ⟨am_m175, by rfl, Or.inl (am_inP 1543 (by decide +kernel) rfl), am_k175, Or.inr (Or.inl ⟨rfl, am_inP 1544 (by decide +kernel) rfl, am_inP 1545 (by decide +kernel) rfl⟩)⟩
theorem am_l218 : am_okL (12, 63, 176, 1) := ⟨am_m176, by rfl, Or.inl (am_inP 1547 (by decide +kernel) rfl), am_k176, Or.inr (Or.inl ⟨rfl, am_inP 1548 (by decide +kernel) rfl, am_inP 1549 (by decide +kernel) rfl⟩)⟩
theorem am_l219 : am_okL (11, 432, 114, 0) := ⟨am_m114, by rfl, Or.inl (am_inP 1551 (by decide +kernel) rfl), am_k114, Or.inl ⟨rfl, am_inP 1552 (by decide +kernel) rfl⟩⟩
theorem am_l220 : am_okL (12, 66, 177, 1) := ⟨am_m177, by rfl, Or.inl (am_inP 1554 (by decide +kernel) rfl), am_k177, Or.inr (Or.inl ⟨rfl, am_inP 1555 (by decide +kernel) rfl, am_inP 1556 (by decide +kernel) rfl⟩)⟩
theorem am_l221 : am_okL (12, 70, 178, 1) := ⟨am_m178, by rfl, Or.inl (am_inP 1558 (by decide +kernel) rfl), am_k178, Or.inr (Or.inl ⟨rfl, am_inP 1559 (by decide +kernel) rfl, am_inP 1560 (by decide +kernel) rfl⟩)⟩
theorem am_l222 : am_okL (12, 74, 179, 1) := ⟨am_m179, by rfl, Or.inl (am_inP 1562 (by decide +kernel) rfl), am_k179, Or.inr (Or.inl ⟨rfl, am_inP 1563 (by decide +kernel) rfl, am_inP 1564 (by decide +kernel) rfl⟩)⟩
def am_lk_0 : List (Nat × Nat × Nat × Nat) := [(12, 32, 97, 2), (10, 15, 67, 2), (10, 22, 58, 2), (10, 31, 93, 2), (10, 36, 30, 2), (3, 17, 43, 2), (3, 24, 0, 2), (3, 43, 52, 2), (10, 45, 7, 2), (10, 56, 85, 2), (10, 65, 16, 2), (12, 48, 99, 1), (12, 56, 101, 1), (12, 67, 104, 1), (12, 71, 105, 1), (12, 38, 180, 0)]
theorem am_lk_k0 : ∀ r ∈ am_lk_0, am_okL r := List.forall_mem_cons.mpr ⟨am_l0, List.forall_mem_cons.mpr ⟨am_l1, List.forall_mem_cons.mpr ⟨am_l2, List.forall_mem_cons.mpr ⟨am_l3, List.forall_mem_cons.mpr ⟨am_l4, List.forall_mem_cons.mpr ⟨am_l5, List.forall_mem_cons.mpr ⟨am_l6, List.forall_mem_cons.mpr ⟨am_l7, List.forall_mem_cons.mpr ⟨am_l8, List.forall_mem_cons.mpr ⟨am_l9, List.forall_mem_cons.mpr ⟨am_l10, List.forall_mem_cons.mpr ⟨am_l11, List.forall_mem_cons.mpr ⟨am_l12, List.forall_mem_cons.mpr ⟨am_l13, List.forall_mem_cons.mpr ⟨am_l14, List.forall_mem_cons.mpr ⟨am_l15, fun _ h => absurd h List.not_mem_nil⟩⟩⟩⟩⟩⟩⟩⟩⟩⟩⟩⟩⟩⟩⟩⟩
def am_lk_1 : List (Nat × Nat × Nat × Nat) := [(12, 7, 98, 1), (12, 52, 181, 0), (12, 17, 100, 1), (10, 85, 59, 1), (10, 92, 68, 1), (7, 19, 69, 0), (7, 23, 70, 0), (7, 27, 106, 0), (7, 34, 71, 1), (10, 96, 31, 1), (3, 50, 32, 1), (3, 107, 1, 1), (3, 110, 44, 1), (3, 53, 82, 1), (7, 67, 78, 1), (7, 64, 107, 0)]
theorem am_lk_k1 : ∀ r ∈ am_lk_1, am_okL r := List.forall_mem_cons.mpr ⟨am_l16, List.forall_mem_cons.mpr ⟨am_l17, List.forall_mem_cons.mpr ⟨am_l18, List.forall_mem_cons.mpr ⟨am_l19, List.forall_mem_cons.mpr ⟨am_l20, List.forall_mem_cons.mpr ⟨am_l21, List.forall_mem_cons.mpr ⟨am_l22, List.forall_mem_cons.mpr ⟨am_l23, List.forall_mem_cons.mpr ⟨am_l24, List.forall_mem_cons.mpr ⟨am_l25, List.forall_mem_cons.mpr ⟨am_l26, List.forall_mem_cons.mpr ⟨am_l27, List.forall_mem_cons.mpr ⟨am_l28, List.forall_mem_cons.mpr ⟨am_l29, List.forall_mem_cons.mpr ⟨am_l30, List.forall_mem_cons.mpr ⟨am_l31, fun _ h => absurd h List.not_mem_nil⟩⟩⟩⟩⟩⟩⟩⟩⟩⟩⟩⟩⟩⟩⟩⟩
def am_lk_2 : List (Nat × Nat × Nat × Nat) := [(7, 89, 81, 1), (7, 76, 77, 1), (7, 60, 76, 1), (7, 86, 73, 1), (3, 60, 77, 1), (3, 64, 33, 1), (3, 89, 79, 1), (3, 112, 75, 1), (7, 47, 108, 0), (3, 92, 78, 1), (3, 116, 34, 1), (3, 123, 76, 1), (3, 73, 35, 1), (3, 134, 53, 1), (5, 17, 77, 1), (5, 25, 44, 1)]
theorem am_lk_k2 : ∀ r ∈ am_lk_2, am_okL r := List.forall_mem_cons.mpr ⟨am_l32, List.forall_mem_cons.mpr ⟨am_l33, List.forall_mem_cons.mpr ⟨am_l34, List.forall_mem_cons.mpr ⟨am_l35, List.forall_mem_cons.mpr ⟨am_l36, List.forall_mem_cons.mpr ⟨am_l37, List.forall_mem_cons.mpr ⟨am_l38, List.forall_mem_cons.mpr ⟨am_l39, List.forall_mem_cons.mpr ⟨am_l40, List.forall_mem_cons.mpr ⟨am_l41, List.forall_mem_cons.mpr ⟨am_l42, List.forall_mem_cons.mpr ⟨am_l43, List.forall_mem_cons.mpr ⟨am_l44, List.forall_mem_cons.mpr ⟨am_l45, List.forall_mem_cons.mpr ⟨am_l46, List.forall_mem_cons.mpr ⟨am_l47, fun _ h => absurd h List.not_mem_nil⟩⟩⟩⟩⟩⟩⟩⟩⟩⟩⟩⟩⟩⟩⟩⟩
def am_lk_3 : List (Nat × Nat × Nat × Nat) := [(5, 31, 74, 1), (5, 34, 78, 1), (5, 40, 54, 1), (5, 75, 75, 1), (5, 44, 55, 1), (5, 87, 56, 1), (5, 95, 45, 1), (5, 48, 57, 1), (5, 90, 72, 1), (5, 55, 46, 1), (3, 138, 42, 1), (3, 95, 74, 1), (3, 78, 37, 1), (3, 141, 72, 1), (3, 166, 38, 1), (3, 172, 39, 1)]
theorem am_lk_k3 : ∀ r ∈ am_lk_3, am_okL r := List.forall_mem_cons.mpr ⟨am_l48, List.forall_mem_cons.mpr ⟨am_l49, List.forall_mem_cons.mpr ⟨am_l50, List.forall_mem_cons.mpr ⟨am_l51, List.forall_mem_cons.mpr ⟨am_l52, List.forall_mem_cons.mpr ⟨am_l53, List.forall_mem_cons.mpr ⟨am_l54, List.forall_mem_cons.mpr ⟨am_l55, List.forall_mem_cons.mpr ⟨am_l56, List.forall_mem_cons.mpr ⟨am_l57, List.forall_mem_cons.mpr ⟨am_l58, List.forall_mem_cons.mpr ⟨am_l59, List.forall_mem_cons.mpr ⟨am_l60, List.forall_mem_cons.mpr ⟨am_l61, List.forall_mem_cons.mpr ⟨am_l62, List.forall_mem_cons.mpr ⟨am_l63, fun _ h => absurd h List.not_mem_nil⟩⟩⟩⟩⟩⟩⟩⟩⟩⟩⟩⟩⟩⟩⟩⟩
def am_lk_4 : List (Nat × Nat × Nat × Nat) := [(3, 213, 40, 1), (3, 216, 80, 1), (7, 71, 110, 0), (3, 175, 41, 1), (3, 178, 2, 1), (3, 182, 3, 1), (3, 186, 4, 1), (3, 189, 94, 1), (9, 27, 74, 1), (9, 39, 72, 1), (9, 43, 64, 1), (9, 49, 73, 1), (9, 52, 107, 0), (9, 56, 95, 1), (9, 59, 83, 1), (7, 94, 84, 1)]
theorem am_lk_k4 : ∀ r ∈ am_lk_4, am_okL r := List.forall_mem_cons.mpr ⟨am_l64, List.forall_mem_cons.mpr ⟨am_l65, List.forall_mem_cons.mpr ⟨am_l66, List.forall_mem_cons.mpr ⟨am_l67, List.forall_mem_cons.mpr ⟨am_l68, List.forall_mem_cons.mpr ⟨am_l69, List.forall_mem_cons.mpr ⟨am_l70, List.forall_mem_cons.mpr ⟨am_l71, List.forall_mem_cons.mpr ⟨am_l72, List.forall_mem_cons.mpr ⟨am_l73, List.forall_mem_cons.mpr ⟨am_l74, List.forall_mem_cons.mpr ⟨am_l75, List.forall_mem_cons.mpr ⟨am_l76, List.forall_mem_cons.mpr ⟨am_l77, List.forall_mem_cons.mpr ⟨am_l78, List.forall_mem_cons.mpr ⟨am_l79, fun _ h => absurd h List.not_mem_nil⟩⟩⟩⟩⟩⟩⟩⟩⟩⟩⟩⟩⟩⟩⟩⟩
def am_lk_5 : List (Nat × Nat × Nat × Nat) := [(7, 104, 109, 0), (7, 101, 74, 1), (9, 62, 63, 1), (6, 53, 75, 1), (6, 57, 74, 1), (6, 60, 66, 1), (6, 46, 65, 1), (9, 65, 96, 1), (3, 201, 5, 1), (3, 83, 36, 1), (3, 151, 84, 1), (3, 154, 73, 1), (3, 157, 71, 1), (3, 160, 60, 1), (3, 86, 81, 1), (10, 99, 86, 1)]
theorem am_lk_k5 : ∀ r ∈ am_lk_5, am_okL r := List.forall_mem_cons.mpr ⟨am_l80, List.forall_mem_cons.mpr ⟨am_l81, List.forall_mem_cons.mpr ⟨am_l82, List.forall_mem_cons.mpr ⟨am_l83, List.forall_mem_cons.mpr ⟨am_l84, List.forall_mem_cons.mpr ⟨am_l85, List.forall_mem_cons.mpr ⟨am_l86, List.forall_mem_cons.mpr ⟨am_l87, List.forall_mem_cons.mpr ⟨am_l88, List.forall_mem_cons.mpr ⟨am_l89, List.forall_mem_cons.mpr ⟨am_l90, List.forall_mem_cons.mpr ⟨am_l91, List.forall_mem_cons.mpr ⟨am_l92, List.forall_mem_cons.mpr ⟨am_l93, List.forall_mem_cons.mpr ⟨am_l94, List.forall_mem_cons.mpr ⟨am_l95, fun _ h => absurd h List.not_mem_nil⟩⟩⟩⟩⟩⟩⟩⟩⟩⟩⟩⟩⟩⟩⟩⟩
def am_lk_6 : List (Nat × Nat × Nat × Nat) := [(8, 31, 8, 1), (8, 36, 88, 1), (8, 90, 74, 1), (8, 93, 75, 1), (8, 96, 61, 1), (8, 99, 9, 1), (8, 103, 78, 1), (8, 46, 72, 1), (8, 106, 108, 0), (8, 110, 89, 1), (8, 122, 2, 1), (8, 131, 94, 1), (8, 143, 10, 1), (1, 40, 9, 1), (8, 67, 77, 1), (8, 116, 90, 1)]
theorem am_lk_k6 : ∀ r ∈ am_lk_6, am_okL r := List.forall_mem_cons.mpr ⟨am_l96, List.forall_mem_cons.mpr ⟨am_l97, List.forall_mem_cons.mpr ⟨am_l98, List.forall_mem_cons.mpr ⟨am_l99, List.forall_mem_cons.mpr ⟨am_l100, List.forall_mem_cons.mpr ⟨am_l101, List.forall_mem_cons.mpr ⟨am_l102, List.forall_mem_cons.mpr ⟨am_l103, List.forall_mem_cons.mpr ⟨am_l104, List.forall_mem_cons.mpr ⟨am_l105, List.forall_mem_cons.mpr ⟨am_l106, List.forall_mem_cons.mpr ⟨am_l107, List.forall_mem_cons.mpr ⟨am_l108, List.forall_mem_cons.mpr ⟨am_l109, List.forall_mem_cons.mpr ⟨am_l110, List.forall_mem_cons.mpr ⟨am_l111, fun _ h => absurd h List.not_mem_nil⟩⟩⟩⟩⟩⟩⟩⟩⟩⟩⟩⟩⟩⟩⟩⟩
def am_lk_7 : List (Nat × Nat × Nat × Nat) := [(8, 156, 6, 1), (8, 119, 92, 1), (8, 168, 62, 1), (8, 52, 64, 1), (8, 55, 87, 1), (8, 84, 83, 1), (8, 87, 63, 1), (8, 61, 11, 1), (8, 58, 73, 1), (8, 71, 91, 1), (8, 74, 81, 1), (8, 78, 82, 1), (10, 100, 17, 1), (2, 47, 19, 1), (2, 63, 18, 1), (2, 71, 47, 1)]
theorem am_lk_k7 : ∀ r ∈ am_lk_7, am_okL r := List.forall_mem_cons.mpr ⟨am_l112, List.forall_mem_cons.mpr ⟨am_l113, List.forall_mem_cons.mpr ⟨am_l114, List.forall_mem_cons.mpr ⟨am_l115, List.forall_mem_cons.mpr ⟨am_l116, List.forall_mem_cons.mpr ⟨am_l117, List.forall_mem_cons.mpr ⟨am_l118, List.forall_mem_cons.mpr ⟨am_l119, List.forall_mem_cons.mpr ⟨am_l120, List.forall_mem_cons.mpr ⟨am_l121, List.forall_mem_cons.mpr ⟨am_l122, List.forall_mem_cons.mpr ⟨am_l123, List.forall_mem_cons.mpr ⟨am_l124, List.forall_mem_cons.mpr ⟨am_l125, List.forall_mem_cons.mpr ⟨am_l126, List.forall_mem_cons.mpr ⟨am_l127, fun _ h => absurd h List.not_mem_nil⟩⟩⟩⟩⟩⟩⟩⟩⟩⟩⟩⟩⟩⟩⟩⟩
def am_lk_8 : List (Nat × Nat × Nat × Nat) := [(4, 34, 48, 1), (2, 55, 20, 1), (2, 80, 22, 1), (2, 99, 21, 1), (2, 103, 49, 1), (4, 38, 50, 1), (2, 110, 25, 1), (2, 133, 26, 1), (2, 86, 27, 1), (2, 146, 12, 1), (2, 159, 28, 1), (2, 177, 110, 0), (2, 163, 14, 1), (1, 54, 110, 0), (2, 166, 15, 1), (1, 57, 108, 0)]
theorem am_lk_k8 : ∀ r ∈ am_lk_8, am_okL r := List.forall_mem_cons.mpr ⟨am_l128, List.forall_mem_cons.mpr ⟨am_l129, List.forall_mem_cons.mpr ⟨am_l130, List.forall_mem_cons.mpr ⟨am_l131, List.forall_mem_cons.mpr ⟨am_l132, List.forall_mem_cons.mpr ⟨am_l133, List.forall_mem_cons.mpr ⟨am_l134, List.forall_mem_cons.mpr ⟨am_l135, List.forall_mem_cons.mpr ⟨am_l136, List.forall_mem_cons.mpr ⟨am_l137, List.forall_mem_cons.mpr ⟨am_l138, List.forall_mem_cons.mpr ⟨am_l139, List.forall_mem_cons.mpr ⟨am_l140, List.forall_mem_cons.mpr ⟨am_l141, List.forall_mem_cons.mpr ⟨am_l142, List.forall_mem_cons.mpr ⟨am_l143, fun _ h => absurd h List.not_mem_nil⟩⟩⟩⟩⟩⟩⟩⟩⟩⟩⟩⟩⟩⟩⟩⟩
def am_lk_9 : List (Nat × Nat × Nat × Nat) := [(2, 169, 29, 1), (2, 90, 23, 1), (2, 113, 13, 1), (1, 50, 107, 0), (2, 117, 51, 1), (2, 93, 24, 1), (12, 60, 182, 0), (12, 23, 102, 1), (12, 64, 183, 0), (12, 29, 103, 1), (12, 35, 111, 2), (12, 44, 112, 1), (12, 43, 115, 1), (11, 150, 113, 1), (12, 51, 116, 1), (12, 55, 174, 1)]
theorem am_lk_k9 : ∀ r ∈ am_lk_9, am_okL r := List.forall_mem_cons.mpr ⟨am_l144, List.forall_mem_cons.mpr ⟨am_l145, List.forall_mem_cons.mpr ⟨am_l146, List.forall_mem_cons.mpr ⟨am_l147, List.forall_mem_cons.mpr ⟨am_l148, List.forall_mem_cons.mpr ⟨am_l149, List.forall_mem_cons.mpr ⟨am_l150, List.forall_mem_cons.mpr ⟨am_l151, List.forall_mem_cons.mpr ⟨am_l152, List.forall_mem_cons.mpr ⟨am_l153, List.forall_mem_cons.mpr ⟨am_l154, List.forall_mem_cons.mpr ⟨am_l155, List.forall_mem_cons.mpr ⟨am_l156, List.forall_mem_cons.mpr ⟨am_l157, List.forall_mem_cons.mpr ⟨am_l158, List.forall_mem_cons.mpr ⟨am_l159, fun _ h => absurd h List.not_mem_nil⟩⟩⟩⟩⟩⟩⟩⟩⟩⟩⟩⟩⟩⟩⟩⟩
def am_lk_10 : List (Nat × Nat × Nat × Nat) := [(11, 416, 173, 1), (11, 419, 121, 1), (11, 165, 117, 1), (11, 172, 120, 1), (11, 175, 118, 0), (11, 422, 170, 1), (11, 195, 126, 1), (11, 182, 122, 1), (11, 192, 119, 0), (11, 186, 123, 1), (11, 410, 138, 1), (11, 210, 125, 1), (11, 189, 124, 1), (11, 240, 127, 1), (11, 202, 128, 1), (11, 246, 137, 1)]
theorem am_lk_k10 : ∀ r ∈ am_lk_10, am_okL r := List.forall_mem_cons.mpr ⟨am_l160, List.forall_mem_cons.mpr ⟨am_l161, List.forall_mem_cons.mpr ⟨am_l162, List.forall_mem_cons.mpr ⟨am_l163, List.forall_mem_cons.mpr ⟨am_l164, List.forall_mem_cons.mpr ⟨am_l165, List.forall_mem_cons.mpr ⟨am_l166, List.forall_mem_cons.mpr ⟨am_l167, List.forall_mem_cons.mpr ⟨am_l168, List.forall_mem_cons.mpr ⟨am_l169, List.forall_mem_cons.mpr ⟨am_l170, List.forall_mem_cons.mpr ⟨am_l171, List.forall_mem_cons.mpr ⟨am_l172, List.forall_mem_cons.mpr ⟨am_l173, List.forall_mem_cons.mpr ⟨am_l174, List.forall_mem_cons.mpr ⟨am_l175, fun _ h => absurd h List.not_mem_nil⟩⟩⟩⟩⟩⟩⟩⟩⟩⟩⟩⟩⟩⟩⟩⟩
def am_lk_11 : List (Nat × Nat × Nat × Nat) := [(11, 249, 139, 1), (11, 256, 129, 1), (11, 261, 143, 1), (11, 294, 144, 1), (11, 300, 145, 1), (11, 304, 141, 1), (11, 282, 142, 1), (11, 288, 130, 0), (11, 312, 135, 1), (11, 228, 134, 1), (11, 231, 132, 1), (11, 199, 131, 1), (11, 205, 133, 1), (11, 315, 136, 1), (11, 266, 146, 1), (11, 322, 147, 1)]
theorem am_lk_k11 : ∀ r ∈ am_lk_11, am_okL r := List.forall_mem_cons.mpr ⟨am_l176, List.forall_mem_cons.mpr ⟨am_l177, List.forall_mem_cons.mpr ⟨am_l178, List.forall_mem_cons.mpr ⟨am_l179, List.forall_mem_cons.mpr ⟨am_l180, List.forall_mem_cons.mpr ⟨am_l181, List.forall_mem_cons.mpr ⟨am_l182, List.forall_mem_cons.mpr ⟨am_l183, List.forall_mem_cons.mpr ⟨am_l184, List.forall_mem_cons.mpr ⟨am_l185, List.forall_mem_cons.mpr ⟨am_l186, List.forall_mem_cons.mpr ⟨am_l187, List.forall_mem_cons.mpr ⟨am_l188, List.forall_mem_cons.mpr ⟨am_l189, List.forall_mem_cons.mpr ⟨am_l190, List.forall_mem_cons.mpr ⟨am_l191, fun _ h => absurd h List.not_mem_nil⟩⟩⟩⟩⟩⟩⟩⟩⟩⟩⟩⟩⟩⟩⟩⟩
def am_lk_12 : List (Nat × Nat × Nat × Nat) := [(11, 325, 152, 1), (11, 345, 150, 1), (11, 348, 151, 1), (11, 351, 153, 1), (11, 354, 148, 1), (11, 357, 149, 1), (11, 331, 155, 1), (11, 360, 154, 1), (11, 271, 140, 1), (11, 404, 164, 1), (11, 386, 163, 1), (11, 370, 156, 1), (11, 389, 165, 1), (11, 398, 162, 1), (11, 374, 157, 1), (11, 377, 160, 1)]
theorem am_lk_k12 : ∀ r ∈ am_lk_12, am_okL r := List.forall_mem_cons.mpr ⟨am_l192, List.forall_mem_cons.mpr ⟨am_l193, List.forall_mem_cons.mpr ⟨am_l194, List.forall_mem_cons.mpr ⟨am_l195, List.forall_mem_cons.mpr ⟨am_l196, List.forall_mem_cons.mpr ⟨am_l197, List.forall_mem_cons.mpr ⟨am_l198, List.forall_mem_cons.mpr ⟨am_l199, List.forall_mem_cons.mpr ⟨am_l200, List.forall_mem_cons.mpr ⟨am_l201, List.forall_mem_cons.mpr ⟨am_l202, List.forall_mem_cons.mpr ⟨am_l203, List.forall_mem_cons.mpr ⟨am_l204, List.forall_mem_cons.mpr ⟨am_l205, List.forall_mem_cons.mpr ⟨am_l206, List.forall_mem_cons.mpr ⟨am_l207, fun _ h => absurd h List.not_mem_nil⟩⟩⟩⟩⟩⟩⟩⟩⟩⟩⟩⟩⟩⟩⟩⟩
def am_lk_13 : List (Nat × Nat × Nat × Nat) := [(11, 380, 161, 1), (11, 383, 159, 1), (11, 392, 166, 1), (11, 395, 167, 1), (11, 426, 169, 1), (11, 401, 168, 1), (11, 407, 158, 1), (11, 429, 172, 1), (11, 413, 171, 1), (12, 59, 175, 1), (12, 63, 176, 1), (11, 432, 114, 0), (12, 66, 177, 1), (12, 70, 178, 1), (12, 74, 179, 1)]
theorem am_lk_k13 : ∀ r ∈ am_lk_13, am_okL r := List.forall_mem_cons.mpr ⟨am_l208, List.forall_mem_cons.mpr ⟨am_l209, List.forall_mem_cons.mpr ⟨am_l210, List.forall_mem_cons.mpr ⟨am_l211, List.forall_mem_cons.mpr ⟨am_l212, List.forall_mem_cons.mpr ⟨am_l213, List.forall_mem_cons.mpr ⟨am_l214, List.forall_mem_cons.mpr ⟨am_l215, List.forall_mem_cons.mpr ⟨am_l216, List.forall_mem_cons.mpr ⟨am_l217, List.forall_mem_cons.mpr ⟨am_l218, List.forall_mem_cons.mpr ⟨am_l219, List.forall_mem_cons.mpr ⟨am_l220, List.forall_mem_cons.mpr ⟨am_l221, List.forall_mem_cons.mpr ⟨am_l222, fun _ h => absurd h List.not_mem_nil⟩⟩⟩⟩⟩⟩⟩⟩⟩⟩⟩⟩⟩⟩⟩
def am_lk : List (Nat × Nat × Nat × Nat) := am_lk_0 ++ (am_lk_1 ++ (am_lk_2 ++ (am_lk_3 ++ (am_lk_4 ++ (am_lk_5 ++ (am_lk_6 ++ (am_lk_7 ++ (am_lk_8 ++ (am_lk_9 ++ (am_lk_10 ++ (am_lk_11 ++ (am_lk_12 ++ (am_lk_13)))))))))))))
theorem am_lk_ok : ∀ r ∈ am_lk, am_okL r := List.forall_mem_append.mpr ⟨am_lk_k0, List.forall_mem_append.mpr ⟨am_lk_k1, List.forall_mem_append.mpr ⟨am_lk_k2, List.forall_mem_append.mpr ⟨am_lk_k3, List.forall_mem_append.mpr ⟨am_lk_k4, List.forall_mem_append.mpr ⟨am_lk_k5, List.forall_mem_append.mpr ⟨am_lk_k6, List.forall_mem_append.mpr ⟨am_lk_k7, List.forall_mem_append.mpr ⟨am_lk_k8, List.forall_mem_append.mpr ⟨am_lk_k9, List.forall_mem_append.mpr ⟨am_lk_k10, List.forall_mem_append.mpr ⟨am_lk_k11, List.forall_mem_append.mpr ⟨am_lk_k12, am_lk_k13⟩⟩⟩⟩⟩⟩⟩⟩⟩⟩⟩⟩⟩
end
section
def am_okF (r : Nat × Nat × Nat × Nat) : Prop := ∃ a : vw_C, vwCl[r.2.2.1]? = some a ∧ r.2.2.2 < a.2.2 ∧ (am_in (.fieldLink (am_R r.1) r.2.1 (a.2.1 r.2.2.2).1 (a.2.1 r.2.2.2).2.1 (a.2.1 r.2.2.2).2.2.1) ∨ ∃ host, am_in (.fieldLinkNest (am_R r.1) r.2.1 (a.2.1 r.2.2.2).1 (a.2.1 r.2.2.2).2.1 (a.2.1 r.2.2.2).2.2.1 host))
theorem am_f0 : am_okF (7, 9, 7, 0) := ⟨(RX7, TX7, 4), by rfl, by decide, Or.inl (am_inP 39 (by decide +kernel) rfl)⟩
theorem am_f1 : am_okF (2, 172, 7, 0) := ⟨(RX7, TX7, 4), by rfl, by decide, Or.inr ⟨"MarkupJudge", am_inP 40 (by decide +kernel) rfl⟩⟩
theorem am_f2 : am_okF (7, 15, 7, 1) := ⟨(RX7, TX7, 4), by rfl, by decide, Or.inl (am_inP 41 (by decide +kernel) rfl)⟩
theorem am_f3 : am_okF (6, 41, 7, 1) := ⟨(RX7, TX7, 4), by rfl, by decide, Or.inr ⟨"MarkupJudge", am_inP 42 (by decide +kernel) rfl⟩⟩
theorem am_f4 : am_okF (3, 144, 7, 1) := ⟨(RX7, TX7, 4), by rfl, by decide, Or.inr ⟨"MarkupJudge", am_inP 43 (by decide +kernel) rfl⟩⟩
theorem am_f5 : am_okF (7, 38, 7, 2) := ⟨(RX7, TX7, 4), by rfl, by decide, Or.inl (am_inP 44 (by decide +kernel) rfl)⟩
theorem am_f6 : am_okF (6, 67, 7, 2) := ⟨(RX7, TX7, 4), by rfl, by decide, Or.inr ⟨"MarkupJudge", am_inP 45 (by decide +kernel) rfl⟩⟩
theorem am_f7 : am_okF (3, 169, 7, 2) := ⟨(RX7, TX7, 4), by rfl, by decide, Or.inr ⟨"MarkupJudge", am_inP 46 (by decide +kernel) rfl⟩⟩
theorem am_f8 : am_okF (7, 41, 7, 3) := ⟨(RX7, TX7, 4), by rfl, by decide, Or.inl (am_inP 47 (by decide +kernel) rfl)⟩
theorem am_f9 : am_okF (6, 70, 7, 3) := ⟨(RX7, TX7, 4), by rfl, by decide, Or.inr ⟨"MarkupJudge", am_inP 48 (by decide +kernel) rfl⟩⟩
theorem am_f10 : am_okF (6, 27, 6, 0) := ⟨(RX6, TX6, 9), by rfl, by decide, Or.inl (am_inP 65 (by decide +kernel) rfl)⟩
theorem am_f11 : am_okF (6, 9, 6, 1) := ⟨(RX6, TX6, 9), by rfl, by decide, Or.inl (am_inP 66 (by decide +kernel) rfl)⟩
theorem am_f12 : am_okF (6, 15, 6, 2) := ⟨(RX6, TX6, 9), by rfl, by decide, Or.inl (am_inP 67 (by decide +kernel) rfl)⟩
theorem am_f13 : am_okF (6, 18, 6, 3) := ⟨(RX6, TX6, 9), by rfl, by decide, Or.inl (am_inP 68 (by decide +kernel) rfl)⟩
theorem am_f14 : am_okF (6, 21, 6, 4) := ⟨(RX6, TX6, 9), by rfl, by decide, Or.inl (am_inP 69 (by decide +kernel) rfl)⟩
theorem am_f15 : am_okF (6, 24, 6, 5) := ⟨(RX6, TX6, 9), by rfl, by decide, Or.inl (am_inP 70 (by decide +kernel) rfl)⟩
theorem am_f16 : am_okF (6, 38, 6, 6) := ⟨(RX6, TX6, 9), by rfl, by decide, Or.inl (am_inP 71 (by decide +kernel) rfl)⟩
theorem am_f17 : am_okF (9, 33, 6, 6) := ⟨(RX6, TX6, 9), by rfl, by decide, Or.inr ⟨"MarkupJudge", am_inP 72 (by decide +kernel) rfl⟩⟩
theorem am_f18 : am_okF (8, 40, 6, 6) := ⟨(RX6, TX6, 9), by rfl, by decide, Or.inr ⟨"MarkupJudge", am_inP 73 (by decide +kernel) rfl⟩⟩
theorem am_f19 : am_okF (6, 31, 6, 7) := ⟨(RX6, TX6, 9), by rfl, by decide, Or.inl (am_inP 74 (by decide +kernel) rfl)⟩
theorem am_f20 : am_okF (6, 35, 6, 8) := ⟨(RX6, TX6, 9), by rfl, by decide, Or.inl (am_inP 75 (by decide +kernel) rfl)⟩
theorem am_f21 : am_okF (10, 129, 6, 8) := ⟨(RX6, TX6, 9), by rfl, by decide, Or.inr ⟨"MarkupJudge", am_inP 76 (by decide +kernel) rfl⟩⟩
theorem am_f22 : am_okF (9, 15, 9, 0) := ⟨(RX9, TX9, 4), by rfl, by decide, Or.inl (am_inP 102 (by decide +kernel) rfl)⟩
theorem am_f23 : am_okF (9, 19, 9, 1) := ⟨(RX9, TX9, 4), by rfl, by decide, Or.inl (am_inP 103 (by decide +kernel) rfl)⟩
theorem am_f24 : am_okF (9, 9, 9, 2) := ⟨(RX9, TX9, 4), by rfl, by decide, Or.inl (am_inP 104 (by decide +kernel) rfl)⟩
theorem am_f25 : am_okF (8, 137, 9, 2) := ⟨(RX9, TX9, 4), by rfl, by decide, Or.inr ⟨"MarkupJudge", am_inP 105 (by decide +kernel) rfl⟩⟩
theorem am_f26 : am_okF (3, 194, 9, 2) := ⟨(RX9, TX9, 4), by rfl, by decide, Or.inr ⟨"MarkupJudge", am_inP 106 (by decide +kernel) rfl⟩⟩
theorem am_f27 : am_okF (9, 23, 9, 3) := ⟨(RX9, TX9, 4), by rfl, by decide, Or.inl (am_inP 107 (by decide +kernel) rfl)⟩
theorem am_f28 : am_okF (8, 140, 9, 3) := ⟨(RX9, TX9, 4), by rfl, by decide, Or.inr ⟨"MarkupJudge", am_inP 108 (by decide +kernel) rfl⟩⟩
theorem am_f29 : am_okF (3, 198, 9, 3) := ⟨(RX9, TX9, 4), by rfl, by decide, Or.inr ⟨"MarkupJudge", am_inP 109 (by decide +kernel) rfl⟩⟩
theorem am_f30 : am_okF (4, 18, 4, 0) := ⟨(RX4, TX4, 6), by rfl, by decide, Or.inl (am_inP 132 (by decide +kernel) rfl)⟩
theorem am_f31 : am_okF (3, 131, 4, 0) := ⟨(RX4, TX4, 6), by rfl, by decide, Or.inr ⟨"MarkupJudge", am_inP 133 (by decide +kernel) rfl⟩⟩
theorem am_f32 : am_okF (2, 107, 4, 0) := ⟨(RX4, TX4, 6), by rfl, by decide, Or.inr ⟨"MarkupJudge", am_inP 134 (by decide +kernel) rfl⟩⟩
theorem am_f33 : am_okF (4, 22, 4, 1) := ⟨(RX4, TX4, 6), by rfl, by decide, Or.inl (am_inP 135 (by decide +kernel) rfl)⟩
theorem am_f34 : am_okF (5, 72, 4, 1) := ⟨(RX4, TX4, 6), by rfl, by decide, Or.inr ⟨"MarkupJudge", am_inP 136 (by decide +kernel) rfl⟩⟩
theorem am_f35 : am_okF (4, 25, 4, 2) := ⟨(RX4, TX4, 6), by rfl, by decide, Or.inl (am_inP 137 (by decide +kernel) rfl)⟩
theorem am_f36 : am_okF (4, 9, 4, 3) := ⟨(RX4, TX4, 6), by rfl, by decide, Or.inl (am_inP 138 (by decide +kernel) rfl)⟩
theorem am_f37 : am_okF (4, 15, 4, 4) := ⟨(RX4, TX4, 6), by rfl, by decide, Or.inl (am_inP 139 (by decide +kernel) rfl)⟩
theorem am_f38 : am_okF (4, 28, 4, 5) := ⟨(RX4, TX4, 6), by rfl, by decide, Or.inl (am_inP 140 (by decide +kernel) rfl)⟩
theorem am_f39 : am_okF (5, 66, 4, 5) := ⟨(RX4, TX4, 6), by rfl, by decide, Or.inr ⟨"MarkupJudge", am_inP 141 (by decide +kernel) rfl⟩⟩
theorem am_f40 : am_okF (2, 121, 4, 5) := ⟨(RX4, TX4, 6), by rfl, by decide, Or.inr ⟨"MarkupJudge", am_inP 142 (by decide +kernel) rfl⟩⟩
theorem am_f41 : am_okF (0, 9, 0, 0) := ⟨(RX0, TX0, 11), by rfl, by decide, Or.inl (am_inP 162 (by decide +kernel) rfl)⟩
theorem am_f42 : am_okF (8, 153, 0, 0) := ⟨(RX0, TX0, 11), by rfl, by decide, Or.inr ⟨"MarkupJudge", am_inP 163 (by decide +kernel) rfl⟩⟩
theorem am_f43 : am_okF (2, 127, 0, 0) := ⟨(RX0, TX0, 11), by rfl, by decide, Or.inr ⟨"MarkupJudge", am_inP 164 (by decide +kernel) rfl⟩⟩
theorem am_f44 : am_okF (0, 15, 0, 1) := ⟨(RX0, TX0, 11), by rfl, by decide, Or.inl (am_inP 165 (by decide +kernel) rfl)⟩
theorem am_f45 : am_okF (8, 150, 0, 1) := ⟨(RX0, TX0, 11), by rfl, by decide, Or.inr ⟨"MarkupJudge", am_inP 166 (by decide +kernel) rfl⟩⟩
theorem am_f46 : am_okF (0, 18, 0, 2) := ⟨(RX0, TX0, 11), by rfl, by decide, Or.inl (am_inP 167 (by decide +kernel) rfl)⟩
theorem am_f47 : am_okF (8, 127, 0, 2) := ⟨(RX0, TX0, 11), by rfl, by decide, Or.inr ⟨"MarkupJudge", am_inP 168 (by decide +kernel) rfl⟩⟩
theorem am_f48 : am_okF (2, 150, 0, 2) := ⟨(RX0, TX0, 11), by rfl, by decide, Or.inr ⟨"MarkupJudge", am_inP 169 (by decide +kernel) rfl⟩⟩
theorem am_f49 : am_okF (0, 21, 0, 3) := ⟨(RX0, TX0, 11), by rfl, by decide, Or.inl (am_inP 170 (by decide +kernel) rfl)⟩
theorem am_f50 : am_okF (2, 130, 0, 3) := ⟨(RX0, TX0, 11), by rfl, by decide, Or.inr ⟨"MarkupJudge", am_inP 171 (by decide +kernel) rfl⟩⟩
theorem am_f51 : am_okF (0, 24, 0, 4) := ⟨(RX0, TX0, 11), by rfl, by decide, Or.inl (am_inP 172 (by decide +kernel) rfl)⟩
theorem am_f52 : am_okF (2, 153, 0, 4) := ⟨(RX0, TX0, 11), by rfl, by decide, Or.inr ⟨"MarkupJudge", am_inP 173 (by decide +kernel) rfl⟩⟩
theorem am_f53 : am_okF (0, 27, 0, 5) := ⟨(RX0, TX0, 11), by rfl, by decide, Or.inl (am_inP 174 (by decide +kernel) rfl)⟩
theorem am_f54 : am_okF (2, 156, 0, 5) := ⟨(RX0, TX0, 11), by rfl, by decide, Or.inr ⟨"MarkupJudge", am_inP 175 (by decide +kernel) rfl⟩⟩
theorem am_f55 : am_okF (0, 30, 0, 6) := ⟨(RX0, TX0, 11), by rfl, by decide, Or.inl (am_inP 176 (by decide +kernel) rfl)⟩
theorem am_f56 : am_okF (8, 162, 0, 6) := ⟨(RX0, TX0, 11), by rfl, by decide, Or.inr ⟨"MarkupJudge", am_inP 177 (by decide +kernel) rfl⟩⟩
theorem am_f57 : am_okF (2, 140, 0, 6) := ⟨(RX0, TX0, 11), by rfl, by decide, Or.inr ⟨"MarkupJudge", am_inP 178 (by decide +kernel) rfl⟩⟩
theorem am_f58 : am_okF (0, 33, 0, 7) := ⟨(RX0, TX0, 11), by rfl, by decide, Or.inl (am_inP 179 (by decide +kernel) rfl)⟩
theorem am_f59 : am_okF (8, 165, 0, 7) := ⟨(RX0, TX0, 11), by rfl, by decide, Or.inr ⟨"MarkupJudge", am_inP 180 (by decide +kernel) rfl⟩⟩
theorem am_f60 : am_okF (2, 143, 0, 7) := ⟨(RX0, TX0, 11), by rfl, by decide, Or.inr ⟨"MarkupJudge", am_inP 181 (by decide +kernel) rfl⟩⟩
theorem am_f61 : am_okF (0, 36, 0, 8) := ⟨(RX0, TX0, 11), by rfl, by decide, Or.inl (am_inP 182 (by decide +kernel) rfl)⟩
theorem am_f62 : am_okF (8, 159, 0, 8) := ⟨(RX0, TX0, 11), by rfl, by decide, Or.inr ⟨"MarkupJudge", am_inP 183 (by decide +kernel) rfl⟩⟩
theorem am_f63 : am_okF (2, 137, 0, 8) := ⟨(RX0, TX0, 11), by rfl, by decide, Or.inr ⟨"MarkupJudge", am_inP 184 (by decide +kernel) rfl⟩⟩
theorem am_f64 : am_okF (0, 39, 0, 9) := ⟨(RX0, TX0, 11), by rfl, by decide, Or.inl (am_inP 185 (by decide +kernel) rfl)⟩
theorem am_f65 : am_okF (8, 147, 0, 9) := ⟨(RX0, TX0, 11), by rfl, by decide, Or.inr ⟨"MarkupJudge", am_inP 186 (by decide +kernel) rfl⟩⟩
theorem am_f66 : am_okF (2, 124, 0, 9) := ⟨(RX0, TX0, 11), by rfl, by decide, Or.inr ⟨"MarkupJudge", am_inP 187 (by decide +kernel) rfl⟩⟩
theorem am_f67 : am_okF (0, 43, 0, 10) := ⟨(RX0, TX0, 11), by rfl, by decide, Or.inl (am_inP 188 (by decide +kernel) rfl)⟩
theorem am_f68 : am_okF (5, 9, 5, 0) := ⟨(RX5, TX5, 4), by rfl, by decide, Or.inl (am_inP 218 (by decide +kernel) rfl)⟩
theorem am_f69 : am_okF (5, 51, 5, 1) := ⟨(RX5, TX5, 4), by rfl, by decide, Or.inl (am_inP 219 (by decide +kernel) rfl)⟩
theorem am_f70 : am_okF (5, 63, 5, 2) := ⟨(RX5, TX5, 4), by rfl, by decide, Or.inl (am_inP 220 (by decide +kernel) rfl)⟩
theorem am_f71 : am_okF (5, 59, 5, 3) := ⟨(RX5, TX5, 4), by rfl, by decide, Or.inl (am_inP 221 (by decide +kernel) rfl)⟩
theorem am_f72 : am_okF (3, 29, 3, 0) := ⟨(RX3, TX3, 9), by rfl, by decide, Or.inl (am_inP 231 (by decide +kernel) rfl)⟩
theorem am_f73 : am_okF (3, 33, 3, 1) := ⟨(RX3, TX3, 9), by rfl, by decide, Or.inl (am_inP 232 (by decide +kernel) rfl)⟩
theorem am_f74 : am_okF (3, 37, 3, 2) := ⟨(RX3, TX3, 9), by rfl, by decide, Or.inl (am_inP 233 (by decide +kernel) rfl)⟩
theorem am_f75 : am_okF (3, 46, 3, 3) := ⟨(RX3, TX3, 9), by rfl, by decide, Or.inl (am_inP 234 (by decide +kernel) rfl)⟩
theorem am_f76 : am_okF (3, 11, 3, 4) := ⟨(RX3, TX3, 9), by rfl, by decide, Or.inl (am_inP 235 (by decide +kernel) rfl)⟩
theorem am_f77 : am_okF (2, 67, 3, 4) := ⟨(RX3, TX3, 9), by rfl, by decide, Or.inr ⟨"MarkupJudge", am_inP 236 (by decide +kernel) rfl⟩⟩
theorem am_f78 : am_okF (3, 18, 3, 5) := ⟨(RX3, TX3, 9), by rfl, by decide, Or.inl (am_inP 237 (by decide +kernel) rfl)⟩
theorem am_f79 : am_okF (3, 25, 3, 6) := ⟨(RX3, TX3, 9), by rfl, by decide, Or.inl (am_inP 238 (by decide +kernel) rfl)⟩
theorem am_f80 : am_okF (2, 26, 3, 6) := ⟨(RX3, TX3, 9), by rfl, by decide, Or.inr ⟨"MarkupJudge", am_inP 239 (by decide +kernel) rfl⟩⟩
theorem am_f81 : am_okF (10, 52, 3, 6) := ⟨(RX3, TX3, 9), by rfl, by decide, Or.inr ⟨"MarkupJudge", am_inP 240 (by decide +kernel) rfl⟩⟩
theorem am_f82 : am_okF (2, 37, 3, 7) := ⟨(RX3, TX3, 9), by rfl, by decide, Or.inr ⟨"MarkupJudge", am_inP 241 (by decide +kernel) rfl⟩⟩
theorem am_f83 : am_okF (3, 99, 3, 7) := ⟨(RX3, TX3, 9), by rfl, by decide, Or.inl (am_inP 242 (by decide +kernel) rfl)⟩
theorem am_f84 : am_okF (3, 103, 3, 8) := ⟨(RX3, TX3, 9), by rfl, by decide, Or.inl (am_inP 243 (by decide +kernel) rfl)⟩
theorem am_f85 : am_okF (2, 59, 3, 8) := ⟨(RX3, TX3, 9), by rfl, by decide, Or.inr ⟨"MarkupJudge", am_inP 244 (by decide +kernel) rfl⟩⟩
theorem am_f86 : am_okF (1, 9, 1, 0) := ⟨(RX1, TX1, 8), by rfl, by decide, Or.inl (am_inP 270 (by decide +kernel) rfl)⟩
theorem am_f87 : am_okF (2, 77, 1, 0) := ⟨(RX1, TX1, 8), by rfl, by decide, Or.inr ⟨"MarkupJudge", am_inP 271 (by decide +kernel) rfl⟩⟩
theorem am_f88 : am_okF (10, 114, 1, 0) := ⟨(RX1, TX1, 8), by rfl, by decide, Or.inr ⟨"MarkupJudge", am_inP 272 (by decide +kernel) rfl⟩⟩
theorem am_f89 : am_okF (1, 15, 1, 1) := ⟨(RX1, TX1, 8), by rfl, by decide, Or.inl (am_inP 273 (by decide +kernel) rfl)⟩
theorem am_f90 : am_okF (10, 117, 1, 1) := ⟨(RX1, TX1, 8), by rfl, by decide, Or.inr ⟨"MarkupJudge", am_inP 274 (by decide +kernel) rfl⟩⟩
theorem am_f91 : am_okF (2, 96, 1, 1) := ⟨(RX1, TX1, 8), by rfl, by decide, Or.inr ⟨"MarkupJudge", am_inP 275 (by decide +kernel) rfl⟩⟩
theorem am_f92 : am_okF (1, 18, 1, 2) := ⟨(RX1, TX1, 8), by rfl, by decide, Or.inl (am_inP 276 (by decide +kernel) rfl)⟩
theorem am_f93 : am_okF (10, 126, 1, 2) := ⟨(RX1, TX1, 8), by rfl, by decide, Or.inr ⟨"MarkupJudge", am_inP 277 (by decide +kernel) rfl⟩⟩
theorem am_f94 : am_okF (2, 181, 1, 2) := ⟨(RX1, TX1, 8), by rfl, by decide, Or.inr ⟨"MarkupJudge", am_inP 278 (by decide +kernel) rfl⟩⟩
theorem am_f95 : am_okF (1, 21, 1, 3) := ⟨(RX1, TX1, 8), by rfl, by decide, Or.inl (am_inP 279 (by decide +kernel) rfl)⟩
theorem am_f96 : am_okF (10, 120, 1, 3) := ⟨(RX1, TX1, 8), by rfl, by decide, Or.inr ⟨"MarkupJudge", am_inP 280 (by decide +kernel) rfl⟩⟩
theorem am_f97 : am_okF (2, 182, 1, 3) := ⟨(RX1, TX1, 8), by rfl, by decide, Or.inr ⟨"MarkupJudge", am_inP 281 (by decide +kernel) rfl⟩⟩
theorem am_f98 : am_okF (1, 24, 1, 4) := ⟨(RX1, TX1, 8), by rfl, by decide, Or.inl (am_inP 282 (by decide +kernel) rfl)⟩
theorem am_f99 : am_okF (2, 83, 1, 4) := ⟨(RX1, TX1, 8), by rfl, by decide, Or.inr ⟨"MarkupJudge", am_inP 283 (by decide +kernel) rfl⟩⟩
theorem am_f100 : am_okF (1, 27, 1, 5) := ⟨(RX1, TX1, 8), by rfl, by decide, Or.inl (am_inP 284 (by decide +kernel) rfl)⟩
theorem am_f101 : am_okF (10, 123, 1, 5) := ⟨(RX1, TX1, 8), by rfl, by decide, Or.inr ⟨"MarkupJudge", am_inP 285 (by decide +kernel) rfl⟩⟩
theorem am_f102 : am_okF (2, 180, 1, 5) := ⟨(RX1, TX1, 8), by rfl, by decide, Or.inr ⟨"MarkupJudge", am_inP 286 (by decide +kernel) rfl⟩⟩
theorem am_f103 : am_okF (1, 30, 1, 6) := ⟨(RX1, TX1, 8), by rfl, by decide, Or.inl (am_inP 287 (by decide +kernel) rfl)⟩
theorem am_f104 : am_okF (2, 50, 1, 6) := ⟨(RX1, TX1, 8), by rfl, by decide, Or.inr ⟨"MarkupJudge", am_inP 288 (by decide +kernel) rfl⟩⟩
theorem am_f105 : am_okF (10, 104, 1, 6) := ⟨(RX1, TX1, 8), by rfl, by decide, Or.inr ⟨"MarkupJudge", am_inP 289 (by decide +kernel) rfl⟩⟩
theorem am_f106 : am_okF (1, 34, 1, 7) := ⟨(RX1, TX1, 8), by rfl, by decide, Or.inl (am_inP 290 (by decide +kernel) rfl)⟩
theorem am_f107 : am_okF (8, 9, 8, 0) := ⟨(RX8, TX8, 5), by rfl, by decide, Or.inl (am_inP 314 (by decide +kernel) rfl)⟩
theorem am_f108 : am_okF (8, 15, 8, 1) := ⟨(RX8, TX8, 5), by rfl, by decide, Or.inl (am_inP 315 (by decide +kernel) rfl)⟩
theorem am_f109 : am_okF (8, 19, 8, 2) := ⟨(RX8, TX8, 5), by rfl, by decide, Or.inl (am_inP 316 (by decide +kernel) rfl)⟩
theorem am_f110 : am_okF (8, 23, 8, 3) := ⟨(RX8, TX8, 5), by rfl, by decide, Or.inl (am_inP 317 (by decide +kernel) rfl)⟩
theorem am_f111 : am_okF (8, 27, 8, 4) := ⟨(RX8, TX8, 5), by rfl, by decide, Or.inl (am_inP 318 (by decide +kernel) rfl)⟩
theorem am_f112 : am_okF (2, 18, 2, 0) := ⟨(RX2, TX2, 8), by rfl, by decide, Or.inl (am_inP 336 (by decide +kernel) rfl)⟩
theorem am_f113 : am_okF (2, 22, 2, 1) := ⟨(RX2, TX2, 8), by rfl, by decide, Or.inl (am_inP 337 (by decide +kernel) rfl)⟩
theorem am_f114 : am_okF (2, 32, 2, 2) := ⟨(RX2, TX2, 8), by rfl, by decide, Or.inl (am_inP 338 (by decide +kernel) rfl)⟩
theorem am_f115 : am_okF (2, 33, 2, 3) := ⟨(RX2, TX2, 8), by rfl, by decide, Or.inl (am_inP 339 (by decide +kernel) rfl)⟩
theorem am_f116 : am_okF (2, 9, 2, 4) := ⟨(RX2, TX2, 8), by rfl, by decide, Or.inl (am_inP 340 (by decide +kernel) rfl)⟩
theorem am_f117 : am_okF (2, 15, 2, 5) := ⟨(RX2, TX2, 8), by rfl, by decide, Or.inl (am_inP 341 (by decide +kernel) rfl)⟩
theorem am_f118 : am_okF (2, 44, 2, 6) := ⟨(RX2, TX2, 8), by rfl, by decide, Or.inl (am_inP 342 (by decide +kernel) rfl)⟩
theorem am_f119 : am_okF (2, 41, 2, 7) := ⟨(RX2, TX2, 8), by rfl, by decide, Or.inl (am_inP 343 (by decide +kernel) rfl)⟩
theorem am_f120 : am_okF (10, 9, 10, 0) := ⟨(RX10, TX10, 12), by rfl, by decide, Or.inl (am_inP 361 (by decide +kernel) rfl)⟩
theorem am_f121 : am_okF (10, 75, 10, 1) := ⟨(RX10, TX10, 12), by rfl, by decide, Or.inl (am_inP 362 (by decide +kernel) rfl)⟩
theorem am_f122 : am_okF (10, 82, 10, 2) := ⟨(RX10, TX10, 12), by rfl, by decide, Or.inl (am_inP 363 (by decide +kernel) rfl)⟩
theorem am_f123 : am_okF (10, 105, 10, 3) := ⟨(RX10, TX10, 12), by rfl, by decide, Or.inl (am_inP 364 (by decide +kernel) rfl)⟩
theorem am_f124 : am_okF (10, 108, 10, 4) := ⟨(RX10, TX10, 12), by rfl, by decide, Or.inl (am_inP 365 (by decide +kernel) rfl)⟩
theorem am_f125 : am_okF (10, 89, 10, 5) := ⟨(RX10, TX10, 12), by rfl, by decide, Or.inl (am_inP 366 (by decide +kernel) rfl)⟩
theorem am_f126 : am_okF (10, 16, 10, 6) := ⟨(RX10, TX10, 12), by rfl, by decide, Or.inl (am_inP 367 (by decide +kernel) rfl)⟩
theorem am_f127 : am_okF (10, 25, 10, 7) := ⟨(RX10, TX10, 12), by rfl, by decide, Or.inl (am_inP 368 (by decide +kernel) rfl)⟩
theorem am_f128 : am_okF (10, 39, 10, 8) := ⟨(RX10, TX10, 12), by rfl, by decide, Or.inl (am_inP 369 (by decide +kernel) rfl)⟩
theorem am_f129 : am_okF (10, 46, 10, 9) := ⟨(RX10, TX10, 12), by rfl, by decide, Or.inl (am_inP 370 (by decide +kernel) rfl)⟩
theorem am_f130 : am_okF (10, 59, 10, 10) := ⟨(RX10, TX10, 12), by rfl, by decide, Or.inl (am_inP 371 (by decide +kernel) rfl)⟩
theorem am_f131 : am_okF (10, 68, 10, 11) := ⟨(RX10, TX10, 12), by rfl, by decide, Or.inl (am_inP 372 (by decide +kernel) rfl)⟩
theorem am_f132 : am_okF (11, 146, 11, 0) := ⟨(RX11, TX11, 65), by rfl, by decide, Or.inl (am_inP 1079 (by decide +kernel) rfl)⟩
theorem am_f133 : am_okF (11, 159, 11, 1) := ⟨(RX11, TX11, 65), by rfl, by decide, Or.inl (am_inP 1080 (by decide +kernel) rfl)⟩
theorem am_f134 : am_okF (11, 219, 11, 2) := ⟨(RX11, TX11, 65), by rfl, by decide, Or.inl (am_inP 1081 (by decide +kernel) rfl)⟩
theorem am_f135 : am_okF (11, 216, 11, 3) := ⟨(RX11, TX11, 65), by rfl, by decide, Or.inl (am_inP 1082 (by decide +kernel) rfl)⟩
theorem am_f136 : am_okF (11, 328, 11, 4) := ⟨(RX11, TX11, 65), by rfl, by decide, Or.inl (am_inP 1083 (by decide +kernel) rfl)⟩
theorem am_f137 : am_okF (11, 7, 11, 5) := ⟨(RX11, TX11, 65), by rfl, by decide, Or.inl (am_inP 1084 (by decide +kernel) rfl)⟩
theorem am_f138 : am_okF (11, 13, 11, 6) := ⟨(RX11, TX11, 65), by rfl, by decide, Or.inl (am_inP 1085 (by decide +kernel) rfl)⟩
theorem am_f139 : am_okF (11, 154, 11, 7) := ⟨(RX11, TX11, 65), by rfl, by decide, Or.inl (am_inP 1086 (by decide +kernel) rfl)⟩
theorem am_f140 : am_okF (11, 16, 11, 8) := ⟨(RX11, TX11, 65), by rfl, by decide, Or.inl (am_inP 1087 (by decide +kernel) rfl)⟩
theorem am_f141 : am_okF (11, 169, 11, 9) := ⟨(RX11, TX11, 65), by rfl, by decide, Or.inl (am_inP 1088 (by decide +kernel) rfl)⟩
theorem am_f142 : am_okF (11, 19, 11, 10) := ⟨(RX11, TX11, 65), by rfl, by decide, Or.inl (am_inP 1089 (by decide +kernel) rfl)⟩
theorem am_f143 : am_okF (11, 22, 11, 11) := ⟨(RX11, TX11, 65), by rfl, by decide, Or.inl (am_inP 1090 (by decide +kernel) rfl)⟩
theorem am_f144 : am_okF (11, 25, 11, 12) := ⟨(RX11, TX11, 65), by rfl, by decide, Or.inl (am_inP 1091 (by decide +kernel) rfl)⟩
theorem am_f145 : am_okF (11, 179, 11, 13) := ⟨(RX11, TX11, 65), by rfl, by decide, Or.inl (am_inP 1092 (by decide +kernel) rfl)⟩
theorem am_f146 : am_okF (11, 29, 11, 14) := ⟨(RX11, TX11, 65), by rfl, by decide, Or.inl (am_inP 1093 (by decide +kernel) rfl)⟩
theorem am_f147 : am_okF (11, 32, 11, 15) := ⟨(RX11, TX11, 65), by rfl, by decide, Or.inl (am_inP 1094 (by decide +kernel) rfl)⟩
theorem am_f148 : am_okF (11, 35, 11, 16) := ⟨(RX11, TX11, 65), by rfl, by decide, Or.inl (am_inP 1095 (by decide +kernel) rfl)⟩
theorem am_f149 : am_okF (11, 38, 11, 17) := ⟨(RX11, TX11, 65), by rfl, by decide, Or.inl (am_inP 1096 (by decide +kernel) rfl)⟩
theorem am_f150 : am_okF (11, 222, 11, 18) := ⟨(RX11, TX11, 65), by rfl, by decide, Or.inl (am_inP 1097 (by decide +kernel) rfl)⟩
theorem am_f151 : am_okF (11, 41, 11, 19) := ⟨(RX11, TX11, 65), by rfl, by decide, Or.inl (am_inP 1098 (by decide +kernel) rfl)⟩
theorem am_f152 : am_okF (11, 44, 11, 20) := ⟨(RX11, TX11, 65), by rfl, by decide, Or.inl (am_inP 1099 (by decide +kernel) rfl)⟩
theorem am_f153 : am_okF (11, 47, 11, 21) := ⟨(RX11, TX11, 65), by rfl, by decide, Or.inl (am_inP 1100 (by decide +kernel) rfl)⟩
theorem am_f154 : am_okF (11, 50, 11, 22) := ⟨(RX11, TX11, 65), by rfl, by decide, Or.inl (am_inP 1101 (by decide +kernel) rfl)⟩
theorem am_f155 : am_okF (11, 252, 11, 23) := ⟨(RX11, TX11, 65), by rfl, by decide, Or.inl (am_inP 1102 (by decide +kernel) rfl)⟩
theorem am_f156 : am_okF (11, 243, 11, 24) := ⟨(RX11, TX11, 65), by rfl, by decide, Or.inl (am_inP 1103 (by decide +kernel) rfl)⟩
theorem am_f157 : am_okF (11, 53, 11, 25) := ⟨(RX11, TX11, 65), by rfl, by decide, Or.inl (am_inP 1104 (by decide +kernel) rfl)⟩
theorem am_f158 : am_okF (11, 56, 11, 26) := ⟨(RX11, TX11, 65), by rfl, by decide, Or.inl (am_inP 1105 (by decide +kernel) rfl)⟩
theorem am_f159 : am_okF (11, 59, 11, 27) := ⟨(RX11, TX11, 65), by rfl, by decide, Or.inl (am_inP 1106 (by decide +kernel) rfl)⟩
theorem am_f160 : am_okF (11, 62, 11, 28) := ⟨(RX11, TX11, 65), by rfl, by decide, Or.inl (am_inP 1107 (by decide +kernel) rfl)⟩
theorem am_f161 : am_okF (11, 65, 11, 29) := ⟨(RX11, TX11, 65), by rfl, by decide, Or.inl (am_inP 1108 (by decide +kernel) rfl)⟩
theorem am_f162 : am_okF (11, 68, 11, 30) := ⟨(RX11, TX11, 65), by rfl, by decide, Or.inl (am_inP 1109 (by decide +kernel) rfl)⟩
theorem am_f163 : am_okF (11, 71, 11, 31) := ⟨(RX11, TX11, 65), by rfl, by decide, Or.inl (am_inP 1110 (by decide +kernel) rfl)⟩
theorem am_f164 : am_okF (11, 74, 11, 32) := ⟨(RX11, TX11, 65), by rfl, by decide, Or.inl (am_inP 1111 (by decide +kernel) rfl)⟩
theorem am_f165 : am_okF (11, 77, 11, 33) := ⟨(RX11, TX11, 65), by rfl, by decide, Or.inl (am_inP 1112 (by decide +kernel) rfl)⟩
theorem am_f166 : am_okF (11, 80, 11, 34) := ⟨(RX11, TX11, 65), by rfl, by decide, Or.inl (am_inP 1113 (by decide +kernel) rfl)⟩
theorem am_f167 : am_okF (11, 83, 11, 35) := ⟨(RX11, TX11, 65), by rfl, by decide, Or.inl (am_inP 1114 (by decide +kernel) rfl)⟩
theorem am_f168 : am_okF (11, 86, 11, 36) := ⟨(RX11, TX11, 65), by rfl, by decide, Or.inl (am_inP 1115 (by decide +kernel) rfl)⟩
theorem am_f169 : am_okF (11, 89, 11, 37) := ⟨(RX11, TX11, 65), by rfl, by decide, Or.inl (am_inP 1116 (by decide +kernel) rfl)⟩
theorem am_f170 : am_okF (11, 342, 11, 38) := ⟨(RX11, TX11, 65), by rfl, by decide, Or.inl (am_inP 1117 (by decide +kernel) rfl)⟩
theorem am_f171 : am_okF (11, 339, 11, 39) := ⟨(RX11, TX11, 65), by rfl, by decide, Or.inl (am_inP 1118 (by decide +kernel) rfl)⟩
theorem am_f172 : am_okF (11, 336, 11, 40) := ⟨(RX11, TX11, 65), by rfl, by decide, Or.inl (am_inP 1119 (by decide +kernel) rfl)⟩
theorem am_f173 : am_okF (11, 297, 11, 41) := ⟨(RX11, TX11, 65), by rfl, by decide, Or.inl (am_inP 1120 (by decide +kernel) rfl)⟩
theorem am_f174 : am_okF (11, 92, 11, 42) := ⟨(RX11, TX11, 65), by rfl, by decide, Or.inl (am_inP 1121 (by decide +kernel) rfl)⟩
theorem am_f175 : am_okF (11, 95, 11, 43) := ⟨(RX11, TX11, 65), by rfl, by decide, Or.inl (am_inP 1122 (by decide +kernel) rfl)⟩
theorem am_f176 : am_okF (11, 98, 11, 44) := ⟨(RX11, TX11, 65), by rfl, by decide, Or.inl (am_inP 1123 (by decide +kernel) rfl)⟩
theorem am_f177 : am_okF (11, 101, 11, 45) := ⟨(RX11, TX11, 65), by rfl, by decide, Or.inl (am_inP 1124 (by decide +kernel) rfl)⟩
theorem am_f178 : am_okF (11, 104, 11, 46) := ⟨(RX11, TX11, 65), by rfl, by decide, Or.inl (am_inP 1125 (by decide +kernel) rfl)⟩
theorem am_f179 : am_okF (11, 107, 11, 47) := ⟨(RX11, TX11, 65), by rfl, by decide, Or.inl (am_inP 1126 (by decide +kernel) rfl)⟩
theorem am_f180 : am_okF (11, 110, 11, 48) := ⟨(RX11, TX11, 65), by rfl, by decide, Or.inl (am_inP 1127 (by decide +kernel) rfl)⟩
theorem am_f181 : am_okF (11, 113, 11, 49) := ⟨(RX11, TX11, 65), by rfl, by decide, Or.inl (am_inP 1128 (by decide +kernel) rfl)⟩
theorem am_f182 : am_okF (11, 285, 11, 50) := ⟨(RX11, TX11, 65), by rfl, by decide, Or.inl (am_inP 1129 (by decide +kernel) rfl)⟩
theorem am_f183 : am_okF (11, 116, 11, 51) := ⟨(RX11, TX11, 65), by rfl, by decide, Or.inl (am_inP 1130 (by decide +kernel) rfl)⟩
theorem am_f184 : am_okF (11, 119, 11, 52) := ⟨(RX11, TX11, 65), by rfl, by decide, Or.inl (am_inP 1131 (by decide +kernel) rfl)⟩
theorem am_f185 : am_okF (11, 291, 11, 53) := ⟨(RX11, TX11, 65), by rfl, by decide, Or.inl (am_inP 1132 (by decide +kernel) rfl)⟩
theorem am_f186 : am_okF (11, 122, 11, 54) := ⟨(RX11, TX11, 65), by rfl, by decide, Or.inl (am_inP 1133 (by decide +kernel) rfl)⟩
theorem am_f187 : am_okF (11, 225, 11, 55) := ⟨(RX11, TX11, 65), by rfl, by decide, Or.inl (am_inP 1134 (by decide +kernel) rfl)⟩
theorem am_f188 : am_okF (11, 125, 11, 56) := ⟨(RX11, TX11, 65), by rfl, by decide, Or.inl (am_inP 1135 (by decide +kernel) rfl)⟩
theorem am_f189 : am_okF (11, 364, 11, 57) := ⟨(RX11, TX11, 65), by rfl, by decide, Or.inl (am_inP 1136 (by decide +kernel) rfl)⟩
theorem am_f190 : am_okF (11, 128, 11, 58) := ⟨(RX11, TX11, 65), by rfl, by decide, Or.inl (am_inP 1137 (by decide +kernel) rfl)⟩
theorem am_f191 : am_okF (11, 131, 11, 59) := ⟨(RX11, TX11, 65), by rfl, by decide, Or.inl (am_inP 1138 (by decide +kernel) rfl)⟩
theorem am_f192 : am_okF (11, 134, 11, 60) := ⟨(RX11, TX11, 65), by rfl, by decide, Or.inl (am_inP 1139 (by decide +kernel) rfl)⟩
theorem am_f193 : am_okF (11, 137, 11, 61) := ⟨(RX11, TX11, 65), by rfl, by decide, Or.inl (am_inP 1140 (by decide +kernel) rfl)⟩
theorem am_f194 : am_okF (11, 140, 11, 62) := ⟨(RX11, TX11, 65), by rfl, by decide, Or.inl (am_inP 1141 (by decide +kernel) rfl)⟩
theorem am_f195 : am_okF (11, 367, 11, 63) := ⟨(RX11, TX11, 65), by rfl, by decide, Or.inl (am_inP 1142 (by decide +kernel) rfl)⟩
theorem am_f196 : am_okF (11, 143, 11, 64) := ⟨(RX11, TX11, 65), by rfl, by decide, Or.inl (am_inP 1143 (by decide +kernel) rfl)⟩
def am_fd_0 : List (Nat × Nat × Nat × Nat) := [(7, 9, 7, 0), (2, 172, 7, 0), (7, 15, 7, 1), (6, 41, 7, 1), (3, 144, 7, 1), (7, 38, 7, 2), (6, 67, 7, 2), (3, 169, 7, 2), (7, 41, 7, 3), (6, 70, 7, 3), (6, 27, 6, 0), (6, 9, 6, 1), (6, 15, 6, 2), (6, 18, 6, 3), (6, 21, 6, 4), (6, 24, 6, 5)]
theorem am_fd_k0 : ∀ r ∈ am_fd_0, am_okF r := List.forall_mem_cons.mpr ⟨am_f0, List.forall_mem_cons.mpr ⟨am_f1, List.forall_mem_cons.mpr ⟨am_f2, List.forall_mem_cons.mpr ⟨am_f3, List.forall_mem_cons.mpr ⟨am_f4, List.forall_mem_cons.mpr ⟨am_f5, List.forall_mem_cons.mpr ⟨am_f6, List.forall_mem_cons.mpr ⟨am_f7, List.forall_mem_cons.mpr ⟨am_f8, List.forall_mem_cons.mpr ⟨am_f9, List.forall_mem_cons.mpr ⟨am_f10, List.forall_mem_cons.mpr ⟨am_f11, List.forall_mem_cons.mpr ⟨am_f12, List.forall_mem_cons.mpr ⟨am_f13, List.forall_mem_cons.mpr ⟨am_f14, List.forall_mem_cons.mpr ⟨am_f15, fun _ h => absurd h List.not_mem_nil⟩⟩⟩⟩⟩⟩⟩⟩⟩⟩⟩⟩⟩⟩⟩⟩
def am_fd_1 : List (Nat × Nat × Nat × Nat) := [(6, 38, 6, 6), (9, 33, 6, 6), (8, 40, 6, 6), (6, 31, 6, 7), (6, 35, 6, 8), (10, 129, 6, 8), (9, 15, 9, 0), (9, 19, 9, 1), (9, 9, 9, 2), (8, 137, 9, 2), (3, 194, 9, 2), (9, 23, 9, 3), (8, 140, 9, 3), (3, 198, 9, 3), (4, 18, 4, 0), (3, 131, 4, 0)]
theorem am_fd_k1 : ∀ r ∈ am_fd_1, am_okF r := List.forall_mem_cons.mpr ⟨am_f16, List.forall_mem_cons.mpr ⟨am_f17, List.forall_mem_cons.mpr ⟨am_f18, List.forall_mem_cons.mpr ⟨am_f19, List.forall_mem_cons.mpr ⟨am_f20, List.forall_mem_cons.mpr ⟨am_f21, List.forall_mem_cons.mpr ⟨am_f22, List.forall_mem_cons.mpr ⟨am_f23, List.forall_mem_cons.mpr ⟨am_f24, List.forall_mem_cons.mpr ⟨am_f25, List.forall_mem_cons.mpr ⟨am_f26, List.forall_mem_cons.mpr ⟨am_f27, List.forall_mem_cons.mpr ⟨am_f28, List.forall_mem_cons.mpr ⟨am_f29, List.forall_mem_cons.mpr ⟨am_f30, List.forall_mem_cons.mpr ⟨am_f31, fun _ h => absurd h List.not_mem_nil⟩⟩⟩⟩⟩⟩⟩⟩⟩⟩⟩⟩⟩⟩⟩⟩
def am_fd_2 : List (Nat × Nat × Nat × Nat) := [(2, 107, 4, 0), (4, 22, 4, 1), (5, 72, 4, 1), (4, 25, 4, 2), (4, 9, 4, 3), (4, 15, 4, 4), (4, 28, 4, 5), (5, 66, 4, 5), (2, 121, 4, 5), (0, 9, 0, 0), (8, 153, 0, 0), (2, 127, 0, 0), (0, 15, 0, 1), (8, 150, 0, 1), (0, 18, 0, 2), (8, 127, 0, 2)]
theorem am_fd_k2 : ∀ r ∈ am_fd_2, am_okF r := List.forall_mem_cons.mpr ⟨am_f32, List.forall_mem_cons.mpr ⟨am_f33, List.forall_mem_cons.mpr ⟨am_f34, List.forall_mem_cons.mpr ⟨am_f35, List.forall_mem_cons.mpr ⟨am_f36, List.forall_mem_cons.mpr ⟨am_f37, List.forall_mem_cons.mpr ⟨am_f38, List.forall_mem_cons.mpr ⟨am_f39, List.forall_mem_cons.mpr ⟨am_f40, List.forall_mem_cons.mpr ⟨am_f41, List.forall_mem_cons.mpr ⟨am_f42, List.forall_mem_cons.mpr ⟨am_f43, List.forall_mem_cons.mpr ⟨am_f44, List.forall_mem_cons.mpr ⟨am_f45, List.forall_mem_cons.mpr ⟨am_f46, List.forall_mem_cons.mpr ⟨am_f47, fun _ h => absurd h List.not_mem_nil⟩⟩⟩⟩⟩⟩⟩⟩⟩⟩⟩⟩⟩⟩⟩⟩
def am_fd_3 : List (Nat × Nat × Nat × Nat) := [(2, 150, 0, 2), (0, 21, 0, 3), (2, 130, 0, 3), (0, 24, 0, 4), (2, 153, 0, 4), (0, 27, 0, 5), (2, 156, 0, 5), (0, 30, 0, 6), (8, 162, 0, 6), (2, 140, 0, 6), (0, 33, 0, 7), (8, 165, 0, 7), (2, 143, 0, 7), (0, 36, 0, 8), (8, 159, 0, 8), (2, 137, 0, 8)]
theorem am_fd_k3 : ∀ r ∈ am_fd_3, am_okF r := List.forall_mem_cons.mpr ⟨am_f48, List.forall_mem_cons.mpr ⟨am_f49, List.forall_mem_cons.mpr ⟨am_f50, List.forall_mem_cons.mpr ⟨am_f51, List.forall_mem_cons.mpr ⟨am_f52, List.forall_mem_cons.mpr ⟨am_f53, List.forall_mem_cons.mpr ⟨am_f54, List.forall_mem_cons.mpr ⟨am_f55, List.forall_mem_cons.mpr ⟨am_f56, List.forall_mem_cons.mpr ⟨am_f57, List.forall_mem_cons.mpr ⟨am_f58, List.forall_mem_cons.mpr ⟨am_f59, List.forall_mem_cons.mpr ⟨am_f60, List.forall_mem_cons.mpr ⟨am_f61, List.forall_mem_cons.mpr ⟨am_f62, List.forall_mem_cons.mpr ⟨am_f63, fun _ h => absurd h List.not_mem_nil⟩⟩⟩⟩⟩⟩⟩⟩⟩⟩⟩⟩⟩⟩⟩⟩
def am_fd_4 : List (Nat × Nat × Nat × Nat) := [(0, 39, 0, 9), (8, 147, 0, 9), (2, 124, 0, 9), (0, 43, 0, 10), (5, 9, 5, 0), (5, 51, 5, 1), (5, 63, 5, 2), (5, 59, 5, 3), (3, 29, 3, 0), (3, 33, 3, 1), (3, 37, 3, 2), (3, 46, 3, 3), (3, 11, 3, 4), (2, 67, 3, 4), (3, 18, 3, 5), (3, 25, 3, 6)]
theorem am_fd_k4 : ∀ r ∈ am_fd_4, am_okF r := List.forall_mem_cons.mpr ⟨am_f64, List.forall_mem_cons.mpr ⟨am_f65, List.forall_mem_cons.mpr ⟨am_f66, List.forall_mem_cons.mpr ⟨am_f67, List.forall_mem_cons.mpr ⟨am_f68, List.forall_mem_cons.mpr ⟨am_f69, List.forall_mem_cons.mpr ⟨am_f70, List.forall_mem_cons.mpr ⟨am_f71, List.forall_mem_cons.mpr ⟨am_f72, List.forall_mem_cons.mpr ⟨am_f73, List.forall_mem_cons.mpr ⟨am_f74, List.forall_mem_cons.mpr ⟨am_f75, List.forall_mem_cons.mpr ⟨am_f76, List.forall_mem_cons.mpr ⟨am_f77, List.forall_mem_cons.mpr ⟨am_f78, List.forall_mem_cons.mpr ⟨am_f79, fun _ h => absurd h List.not_mem_nil⟩⟩⟩⟩⟩⟩⟩⟩⟩⟩⟩⟩⟩⟩⟩⟩
def am_fd_5 : List (Nat × Nat × Nat × Nat) := [(2, 26, 3, 6), (10, 52, 3, 6), (2, 37, 3, 7), (3, 99, 3, 7), (3, 103, 3, 8), (2, 59, 3, 8), (1, 9, 1, 0), (2, 77, 1, 0), (10, 114, 1, 0), (1, 15, 1, 1), (10, 117, 1, 1), (2, 96, 1, 1), (1, 18, 1, 2), (10, 126, 1, 2), (2, 181, 1, 2), (1, 21, 1, 3)]
theorem am_fd_k5 : ∀ r ∈ am_fd_5, am_okF r := List.forall_mem_cons.mpr ⟨am_f80, List.forall_mem_cons.mpr ⟨am_f81, List.forall_mem_cons.mpr ⟨am_f82, List.forall_mem_cons.mpr ⟨am_f83, List.forall_mem_cons.mpr ⟨am_f84, List.forall_mem_cons.mpr ⟨am_f85, List.forall_mem_cons.mpr ⟨am_f86, List.forall_mem_cons.mpr ⟨am_f87, List.forall_mem_cons.mpr ⟨am_f88, List.forall_mem_cons.mpr ⟨am_f89, List.forall_mem_cons.mpr ⟨am_f90, List.forall_mem_cons.mpr ⟨am_f91, List.forall_mem_cons.mpr ⟨am_f92, List.forall_mem_cons.mpr ⟨am_f93, List.forall_mem_cons.mpr ⟨am_f94, List.forall_mem_cons.mpr ⟨am_f95, fun _ h => absurd h List.not_mem_nil⟩⟩⟩⟩⟩⟩⟩⟩⟩⟩⟩⟩⟩⟩⟩⟩
def am_fd_6 : List (Nat × Nat × Nat × Nat) := [(10, 120, 1, 3), (2, 182, 1, 3), (1, 24, 1, 4), (2, 83, 1, 4), (1, 27, 1, 5), (10, 123, 1, 5), (2, 180, 1, 5), (1, 30, 1, 6), (2, 50, 1, 6), (10, 104, 1, 6), (1, 34, 1, 7), (8, 9, 8, 0), (8, 15, 8, 1), (8, 19, 8, 2), (8, 23, 8, 3), (8, 27, 8, 4)]
theorem am_fd_k6 : ∀ r ∈ am_fd_6, am_okF r := List.forall_mem_cons.mpr ⟨am_f96, List.forall_mem_cons.mpr ⟨am_f97, List.forall_mem_cons.mpr ⟨am_f98, List.forall_mem_cons.mpr ⟨am_f99, List.forall_mem_cons.mpr ⟨am_f100, List.forall_mem_cons.mpr ⟨am_f101, List.forall_mem_cons.mpr ⟨am_f102, List.forall_mem_cons.mpr ⟨am_f103, List.forall_mem_cons.mpr ⟨am_f104, List.forall_mem_cons.mpr ⟨am_f105, List.forall_mem_cons.mpr ⟨am_f106, List.forall_mem_cons.mpr ⟨am_f107, List.forall_mem_cons.mpr ⟨am_f108, List.forall_mem_cons.mpr ⟨am_f109, List.forall_mem_cons.mpr ⟨am_f110, List.forall_mem_cons.mpr ⟨am_f111, fun _ h => absurd h List.not_mem_nil⟩⟩⟩⟩⟩⟩⟩⟩⟩⟩⟩⟩⟩⟩⟩⟩
def am_fd_7 : List (Nat × Nat × Nat × Nat) := [(2, 18, 2, 0), (2, 22, 2, 1), (2, 32, 2, 2), (2, 33, 2, 3), (2, 9, 2, 4), (2, 15, 2, 5), (2, 44, 2, 6), (2, 41, 2, 7), (10, 9, 10, 0), (10, 75, 10, 1), (10, 82, 10, 2), (10, 105, 10, 3), (10, 108, 10, 4), (10, 89, 10, 5), (10, 16, 10, 6), (10, 25, 10, 7)]
theorem am_fd_k7 : ∀ r ∈ am_fd_7, am_okF r := List.forall_mem_cons.mpr ⟨am_f112, List.forall_mem_cons.mpr ⟨am_f113, List.forall_mem_cons.mpr ⟨am_f114, List.forall_mem_cons.mpr ⟨am_f115, List.forall_mem_cons.mpr ⟨am_f116, List.forall_mem_cons.mpr ⟨am_f117, List.forall_mem_cons.mpr ⟨am_f118, List.forall_mem_cons.mpr ⟨am_f119, List.forall_mem_cons.mpr ⟨am_f120, List.forall_mem_cons.mpr ⟨am_f121, List.forall_mem_cons.mpr ⟨am_f122, List.forall_mem_cons.mpr ⟨am_f123, List.forall_mem_cons.mpr ⟨am_f124, List.forall_mem_cons.mpr ⟨am_f125, List.forall_mem_cons.mpr ⟨am_f126, List.forall_mem_cons.mpr ⟨am_f127, fun _ h => absurd h List.not_mem_nil⟩⟩⟩⟩⟩⟩⟩⟩⟩⟩⟩⟩⟩⟩⟩⟩
def am_fd_8 : List (Nat × Nat × Nat × Nat) := [(10, 39, 10, 8), (10, 46, 10, 9), (10, 59, 10, 10), (10, 68, 10, 11), (11, 146, 11, 0), (11, 159, 11, 1), (11, 219, 11, 2), (11, 216, 11, 3), (11, 328, 11, 4), (11, 7, 11, 5), (11, 13, 11, 6), (11, 154, 11, 7), (11, 16, 11, 8), (11, 169, 11, 9), (11, 19, 11, 10), (11, 22, 11, 11)]
theorem am_fd_k8 : ∀ r ∈ am_fd_8, am_okF r := List.forall_mem_cons.mpr ⟨am_f128, List.forall_mem_cons.mpr ⟨am_f129, List.forall_mem_cons.mpr ⟨am_f130, List.forall_mem_cons.mpr ⟨am_f131, List.forall_mem_cons.mpr ⟨am_f132, List.forall_mem_cons.mpr ⟨am_f133, List.forall_mem_cons.mpr ⟨am_f134, List.forall_mem_cons.mpr ⟨am_f135, List.forall_mem_cons.mpr ⟨am_f136, List.forall_mem_cons.mpr ⟨am_f137, List.forall_mem_cons.mpr ⟨am_f138, List.forall_mem_cons.mpr ⟨am_f139, List.forall_mem_cons.mpr ⟨am_f140, List.forall_mem_cons.mpr ⟨am_f141, List.forall_mem_cons.mpr ⟨am_f142, List.forall_mem_cons.mpr ⟨am_f143, fun _ h => absurd h List.not_mem_nil⟩⟩⟩⟩⟩⟩⟩⟩⟩⟩⟩⟩⟩⟩⟩⟩
def am_fd_9 : List (Nat × Nat × Nat × Nat) := [(11, 25, 11, 12), (11, 179, 11, 13), (11, 29, 11, 14), (11, 32, 11, 15), (11, 35, 11, 16), (11, 38, 11, 17), (11, 222, 11, 18), (11, 41, 11, 19), (11, 44, 11, 20), (11, 47, 11, 21), (11, 50, 11, 22), (11, 252, 11, 23), (11, 243, 11, 24), (11, 53, 11, 25), (11, 56, 11, 26), (11, 59, 11, 27)]
theorem am_fd_k9 : ∀ r ∈ am_fd_9, am_okF r := List.forall_mem_cons.mpr ⟨am_f144, List.forall_mem_cons.mpr ⟨am_f145, List.forall_mem_cons.mpr ⟨am_f146, List.forall_mem_cons.mpr ⟨am_f147, List.forall_mem_cons.mpr ⟨am_f148, List.forall_mem_cons.mpr ⟨am_f149, List.forall_mem_cons.mpr ⟨am_f150, List.forall_mem_cons.mpr ⟨am_f151, List.forall_mem_cons.mpr ⟨am_f152, List.forall_mem_cons.mpr ⟨am_f153, List.forall_mem_cons.mpr ⟨am_f154, List.forall_mem_cons.mpr ⟨am_f155, List.forall_mem_cons.mpr ⟨am_f156, List.forall_mem_cons.mpr ⟨am_f157, List.forall_mem_cons.mpr ⟨am_f158, List.forall_mem_cons.mpr ⟨am_f159, fun _ h => absurd h List.not_mem_nil⟩⟩⟩⟩⟩⟩⟩⟩⟩⟩⟩⟩⟩⟩⟩⟩
def am_fd_10 : List (Nat × Nat × Nat × Nat) := [(11, 62, 11, 28), (11, 65, 11, 29), (11, 68, 11, 30), (11, 71, 11, 31), (11, 74, 11, 32), (11, 77, 11, 33), (11, 80, 11, 34), (11, 83, 11, 35), (11, 86, 11, 36), (11, 89, 11, 37), (11, 342, 11, 38), (11, 339, 11, 39), (11, 336, 11, 40), (11, 297, 11, 41), (11, 92, 11, 42), (11, 95, 11, 43)]
theorem am_fd_k10 : ∀ r ∈ am_fd_10, am_okF r := List.forall_mem_cons.mpr ⟨am_f160, List.forall_mem_cons.mpr ⟨am_f161, List.forall_mem_cons.mpr ⟨am_f162, List.forall_mem_cons.mpr ⟨am_f163, List.forall_mem_cons.mpr ⟨am_f164, List.forall_mem_cons.mpr ⟨am_f165, List.forall_mem_cons.mpr ⟨am_f166, List.forall_mem_cons.mpr ⟨am_f167, List.forall_mem_cons.mpr ⟨am_f168, List.forall_mem_cons.mpr ⟨am_f169, List.forall_mem_cons.mpr ⟨am_f170, List.forall_mem_cons.mpr ⟨am_f171, List.forall_mem_cons.mpr ⟨am_f172, List.forall_mem_cons.mpr ⟨am_f173, List.forall_mem_cons.mpr ⟨am_f174, List.forall_mem_cons.mpr ⟨am_f175, fun _ h => absurd h List.not_mem_nil⟩⟩⟩⟩⟩⟩⟩⟩⟩⟩⟩⟩⟩⟩⟩⟩
def am_fd_11 : List (Nat × Nat × Nat × Nat) := [(11, 98, 11, 44), (11, 101, 11, 45), (11, 104, 11, 46), (11, 107, 11, 47), (11, 110, 11, 48), (11, 113, 11, 49), (11, 285, 11, 50), (11, 116, 11, 51), (11, 119, 11, 52), (11, 291, 11, 53), (11, 122, 11, 54), (11, 225, 11, 55), (11, 125, 11, 56), (11, 364, 11, 57), (11, 128, 11, 58), (11, 131, 11, 59)]
theorem am_fd_k11 : ∀ r ∈ am_fd_11, am_okF r := List.forall_mem_cons.mpr ⟨am_f176, List.forall_mem_cons.mpr ⟨am_f177, List.forall_mem_cons.mpr ⟨am_f178, List.forall_mem_cons.mpr ⟨am_f179, List.forall_mem_cons.mpr ⟨am_f180, List.forall_mem_cons.mpr ⟨am_f181, List.forall_mem_cons.mpr ⟨am_f182, List.forall_mem_cons.mpr ⟨am_f183, List.forall_mem_cons.mpr ⟨am_f184, List.forall_mem_cons.mpr ⟨am_f185, List.forall_mem_cons.mpr ⟨am_f186, List.forall_mem_cons.mpr ⟨am_f187, List.forall_mem_cons.mpr ⟨am_f188, List.forall_mem_cons.mpr ⟨am_f189, List.forall_mem_cons.mpr ⟨am_f190, List.forall_mem_cons.mpr ⟨am_f191, fun _ h => absurd h List.not_mem_nil⟩⟩⟩⟩⟩⟩⟩⟩⟩⟩⟩⟩⟩⟩⟩⟩
def am_fd_12 : List (Nat × Nat × Nat × Nat) := [(11, 134, 11, 60), (11, 137, 11, 61), (11, 140, 11, 62), (11, 367, 11, 63), (11, 143, 11, 64)]
theorem am_fd_k12 : ∀ r ∈ am_fd_12, am_okF r := List.forall_mem_cons.mpr ⟨am_f192, List.forall_mem_cons.mpr ⟨am_f193, List.forall_mem_cons.mpr ⟨am_f194, List.forall_mem_cons.mpr ⟨am_f195, List.forall_mem_cons.mpr ⟨am_f196, fun _ h => absurd h List.not_mem_nil⟩⟩⟩⟩⟩
def am_fd : List (Nat × Nat × Nat × Nat) := am_fd_0 ++ (am_fd_1 ++ (am_fd_2 ++ (am_fd_3 ++ (am_fd_4 ++ (am_fd_5 ++ (am_fd_6 ++ (am_fd_7 ++ (am_fd_8 ++ (am_fd_9 ++ (am_fd_10 ++ (am_fd_11 ++ (am_fd_12))))))))))))
theorem am_fd_ok : ∀ r ∈ am_fd, am_okF r := List.forall_mem_append.mpr ⟨am_fd_k0, List.forall_mem_append.mpr ⟨am_fd_k1, List.forall_mem_append.mpr ⟨am_fd_k2, List.forall_mem_append.mpr ⟨am_fd_k3, List.forall_mem_append.mpr ⟨am_fd_k4, List.forall_mem_append.mpr ⟨am_fd_k5, List.forall_mem_append.mpr ⟨am_fd_k6, List.forall_mem_append.mpr ⟨am_fd_k7, List.forall_mem_append.mpr ⟨am_fd_k8, List.forall_mem_append.mpr ⟨am_fd_k9, List.forall_mem_append.mpr ⟨am_fd_k10, List.forall_mem_append.mpr ⟨am_fd_k11, am_fd_k12⟩⟩⟩⟩⟩⟩⟩⟩⟩⟩⟩⟩
def am_okN (r : Nat × Nat × Nat) : Prop := ∃ a : vw_C, vwCl[r.2.2]? = some a ∧ am_in (.classLink (am_R r.1) r.2.1 a.1)
theorem am_n0 : am_okN (12, 8, 10) := ⟨(RX10, TX10, 12), by rfl, am_inP 25 (by decide +kernel) rfl⟩
theorem am_n1 : am_okN (10, 13, 7) := ⟨(RX7, TX7, 4), by rfl, am_inP 33 (by decide +kernel) rfl⟩
theorem am_n2 : am_okN (10, 20, 6) := ⟨(RX6, TX6, 9), by rfl, am_inP 59 (by decide +kernel) rfl⟩
theorem am_n3 : am_okN (10, 29, 9) := ⟨(RX9, TX9, 4), by rfl, am_inP 96 (by decide +kernel) rfl⟩
theorem am_n4 : am_okN (10, 34, 3) := ⟨(RX3, TX3, 9), by rfl, am_inP 119 (by decide +kernel) rfl⟩
theorem am_n5 : am_okN (3, 9, 4) := ⟨(RX4, TX4, 6), by rfl, am_inP 125 (by decide +kernel) rfl⟩
theorem am_n6 : am_okN (3, 22, 0) := ⟨(RX0, TX0, 11), by rfl, am_inP 156 (by decide +kernel) rfl⟩
theorem am_n7 : am_okN (3, 41, 5) := ⟨(RX5, TX5, 4), by rfl, am_inP 212 (by decide +kernel) rfl⟩
theorem am_n8 : am_okN (10, 43, 1) := ⟨(RX1, TX1, 8), by rfl, am_inP 264 (by decide +kernel) rfl⟩
theorem am_n9 : am_okN (10, 50, 8) := ⟨(RX8, TX8, 5), by rfl, am_inP 308 (by decide +kernel) rfl⟩
theorem am_n10 : am_okN (10, 63, 2) := ⟨(RX2, TX2, 8), by rfl, am_inP 330 (by decide +kernel) rfl⟩
theorem am_n11 : am_okN (12, 33, 11) := ⟨(RX11, TX11, 65), by rfl, am_inP 1073 (by decide +kernel) rfl⟩
def am_nw_0 : List (Nat × Nat × Nat) := [(12, 8, 10), (10, 13, 7), (10, 20, 6), (10, 29, 9), (10, 34, 3), (3, 9, 4), (3, 22, 0), (3, 41, 5), (10, 43, 1), (10, 50, 8), (10, 63, 2), (12, 33, 11)]
theorem am_nw_k0 : ∀ r ∈ am_nw_0, am_okN r := List.forall_mem_cons.mpr ⟨am_n0, List.forall_mem_cons.mpr ⟨am_n1, List.forall_mem_cons.mpr ⟨am_n2, List.forall_mem_cons.mpr ⟨am_n3, List.forall_mem_cons.mpr ⟨am_n4, List.forall_mem_cons.mpr ⟨am_n5, List.forall_mem_cons.mpr ⟨am_n6, List.forall_mem_cons.mpr ⟨am_n7, List.forall_mem_cons.mpr ⟨am_n8, List.forall_mem_cons.mpr ⟨am_n9, List.forall_mem_cons.mpr ⟨am_n10, List.forall_mem_cons.mpr ⟨am_n11, fun _ h => absurd h List.not_mem_nil⟩⟩⟩⟩⟩⟩⟩⟩⟩⟩⟩⟩
def am_nw : List (Nat × Nat × Nat) := am_nw_0
theorem am_nw_ok : ∀ r ∈ am_nw, am_okN r := am_nw_k0
/-- the exceptions, by their numbers, with the classes between them and Throwable -/
def am_xn : Nat → String := fun x => match x with
  | 0 => "java/lang/IllegalArgumentException"
  | 1 => "java/lang/IllegalStateException"
  | 2 => "java/lang/UnsupportedOperationException"
  | _ => "java/lang/IndexOutOfBoundsException"
def am_up : List String := ["java/lang/RuntimeException", "java/lang/Exception"]
def am_okX (r : Nat × Nat × Nat × Nat) : Prop := am_in (.classLink (am_R r.1) r.2.1 (am_xn r.2.2.2)) ∧ am_in (.initialized (am_xn r.2.2.2)) ∧ Bundle.fit (am_xn r.2.2.2) = true ∧ ∀ w ∈ vx_at0 (am_R r.1) r.2.2.1 (am_xn r.2.2.2) am_up, am_in w
theorem am_xT {own own0 X : String} {ic ic0 : Nat} (h1 : ∀ w ∈ vx_at0 own0 ic0 X am_up, am_in w) (h2 : am_in (.methodLink own ic (Bundle.init0 X))) : ∀ w ∈ vx_at0 own ic X am_up, am_in w := by
  intro w hw
  simp only [vx_at0, List.mem_filter] at hw
  by_cases hq : w = .methodLink own ic (Bundle.init0 X)
  · rw [hq]; exact h2
  · refine h1 w (List.mem_filter.mpr ⟨?_, hw.2⟩)
    have h3 := hw.1
    unfold Bundle.ownAtoms0 at h3 ⊢
    rcases List.mem_append.mp h3 with h | h
    · exact List.mem_append_left _ h
    · refine List.mem_append_right _ ?_
      rcases List.mem_cons.mp h with h | h
      · exact absurd h hq
      · exact List.mem_cons_of_mem _ h
set_option maxRecDepth 100000 in
theorem am_xB0 : ∀ w ∈ vx_at0 (am_R 5) 83 (am_xn 0) am_up, am_in w := by unfold am_in; decide +kernel
set_option maxRecDepth 100000 in
theorem am_xB1 : ∀ w ∈ vx_at0 (am_R 0) 48 (am_xn 1) am_up, am_in w := by unfold am_in; decide +kernel
set_option maxRecDepth 100000 in
theorem am_xB2 : ∀ w ∈ vx_at0 (am_R 3) 130 (am_xn 2) am_up, am_in w := by unfold am_in; decide +kernel
set_option maxRecDepth 100000 in
theorem am_xB3 : ∀ w ∈ vx_at0 (am_R 10) 113 (am_xn 3) am_up, am_in w := by unfold am_in; decide +kernel
set_option maxRecDepth 100000 in
theorem am_x0 : am_okX (0, 46, 48, 1) := ⟨am_inP 786 (by decide +kernel) rfl, am_inP 17 (by decide +kernel) rfl, by decide +kernel, am_xT am_xB1 (am_inP 787 (by decide +kernel) rfl)⟩
set_option maxRecDepth 100000 in
theorem am_x1 : am_okX (1, 37, 39, 1) := ⟨am_inP 894 (by decide +kernel) rfl, am_inP 17 (by decide +kernel) rfl, by decide +kernel, am_xT am_xB1 (am_inP 895 (by decide +kernel) rfl)⟩
set_option maxRecDepth 100000 in
theorem am_x2 : am_okX (3, 128, 130, 2) := ⟨am_inP 659 (by decide +kernel) rfl, am_inP 22 (by decide +kernel) rfl, by decide +kernel, am_xT am_xB2 (am_inP 668 (by decide +kernel) rfl)⟩
set_option maxRecDepth 100000 in
theorem am_x3 : am_okX (4, 31, 33, 1) := ⟨am_inP 722 (by decide +kernel) rfl, am_inP 17 (by decide +kernel) rfl, by decide +kernel, am_xT am_xB1 (am_inP 723 (by decide +kernel) rfl)⟩
set_option maxRecDepth 100000 in
theorem am_x4 : am_okX (5, 81, 83, 0) := ⟨am_inP 705 (by decide +kernel) rfl, am_inP 16 (by decide +kernel) rfl, by decide +kernel, am_xT am_xB0 (am_inP 706 (by decide +kernel) rfl)⟩
set_option maxRecDepth 100000 in
theorem am_x5 : am_okX (5, 84, 86, 1) := ⟨am_inP 711 (by decide +kernel) rfl, am_inP 17 (by decide +kernel) rfl, by decide +kernel, am_xT am_xB1 (am_inP 712 (by decide +kernel) rfl)⟩
set_option maxRecDepth 100000 in
theorem am_x6 : am_okX (6, 50, 52, 0) := ⟨am_inP 803 (by decide +kernel) rfl, am_inP 16 (by decide +kernel) rfl, by decide +kernel, am_xT am_xB0 (am_inP 804 (by decide +kernel) rfl)⟩
set_option maxRecDepth 100000 in
theorem am_x7 : am_okX (6, 64, 66, 1) := ⟨am_inP 840 (by decide +kernel) rfl, am_inP 17 (by decide +kernel) rfl, by decide +kernel, am_xT am_xB1 (am_inP 841 (by decide +kernel) rfl)⟩
set_option maxRecDepth 100000 in
theorem am_x8 : am_okX (7, 31, 33, 0) := ⟨am_inP 524 (by decide +kernel) rfl, am_inP 16 (by decide +kernel) rfl, by decide +kernel, am_xT am_xB0 (am_inP 525 (by decide +kernel) rfl)⟩
set_option maxRecDepth 100000 in
theorem am_x9 : am_okX (7, 44, 46, 1) := ⟨am_inP 536 (by decide +kernel) rfl, am_inP 17 (by decide +kernel) rfl, by decide +kernel, am_xT am_xB1 (am_inP 537 (by decide +kernel) rfl)⟩
set_option maxRecDepth 100000 in
theorem am_x10 : am_okX (8, 81, 83, 0) := ⟨am_inP 904 (by decide +kernel) rfl, am_inP 16 (by decide +kernel) rfl, by decide +kernel, am_xT am_xB0 (am_inP 905 (by decide +kernel) rfl)⟩
set_option maxRecDepth 100000 in
theorem am_x11 : am_okX (9, 46, 48, 0) := ⟨am_inP 805 (by decide +kernel) rfl, am_inP 16 (by decide +kernel) rfl, by decide +kernel, am_xT am_xB0 (am_inP 806 (by decide +kernel) rfl)⟩
set_option maxRecDepth 100000 in
theorem am_x12 : am_okX (9, 68, 70, 1) := ⟨am_inP 813 (by decide +kernel) rfl, am_inP 17 (by decide +kernel) rfl, by decide +kernel, am_xT am_xB1 (am_inP 814 (by decide +kernel) rfl)⟩
set_option maxRecDepth 100000 in
theorem am_x13 : am_okX (10, 72, 74, 0) := ⟨am_inP 423 (by decide +kernel) rfl, am_inP 16 (by decide +kernel) rfl, by decide +kernel, am_xT am_xB0 (am_inP 465 (by decide +kernel) rfl)⟩
set_option maxRecDepth 100000 in
theorem am_x14 : am_okX (10, 79, 81, 1) := ⟨am_inP 487 (by decide +kernel) rfl, am_inP 17 (by decide +kernel) rfl, by decide +kernel, am_xT am_xB1 (am_inP 496 (by decide +kernel) rfl)⟩
set_option maxRecDepth 100000 in
theorem am_x15 : am_okX (10, 111, 113, 3) := ⟨am_inP 1051 (by decide +kernel) rfl, am_inP 24 (by decide +kernel) rfl, by decide +kernel, am_xT am_xB3 (am_inP 1060 (by decide +kernel) rfl)⟩
def am_xw_0 : List (Nat × Nat × Nat × Nat) := [(0, 46, 48, 1), (1, 37, 39, 1), (3, 128, 130, 2), (4, 31, 33, 1), (5, 81, 83, 0), (5, 84, 86, 1), (6, 50, 52, 0), (6, 64, 66, 1), (7, 31, 33, 0), (7, 44, 46, 1), (8, 81, 83, 0), (9, 46, 48, 0), (9, 68, 70, 1), (10, 72, 74, 0), (10, 79, 81, 1), (10, 111, 113, 3)]
theorem am_xw_k0 : ∀ r ∈ am_xw_0, am_okX r := List.forall_mem_cons.mpr ⟨am_x0, List.forall_mem_cons.mpr ⟨am_x1, List.forall_mem_cons.mpr ⟨am_x2, List.forall_mem_cons.mpr ⟨am_x3, List.forall_mem_cons.mpr ⟨am_x4, List.forall_mem_cons.mpr ⟨am_x5, List.forall_mem_cons.mpr ⟨am_x6, List.forall_mem_cons.mpr ⟨am_x7, List.forall_mem_cons.mpr ⟨am_x8, List.forall_mem_cons.mpr ⟨am_x9, List.forall_mem_cons.mpr ⟨am_x10, List.forall_mem_cons.mpr ⟨am_x11, List.forall_mem_cons.mpr ⟨am_x12, List.forall_mem_cons.mpr ⟨am_x13, List.forall_mem_cons.mpr ⟨am_x14, List.forall_mem_cons.mpr ⟨am_x15, fun _ h => absurd h List.not_mem_nil⟩⟩⟩⟩⟩⟩⟩⟩⟩⟩⟩⟩⟩⟩⟩⟩
def am_xw : List (Nat × Nat × Nat × Nat) := am_xw_0
theorem am_xw_ok : ∀ r ∈ am_xw, am_okX r := am_xw_k0
def am_okH (r : Nat × Nat × Nat) : Prop := am_in (.classLink (am_R r.1) r.2.1 (am_xn r.2.2))
theorem am_h0 : am_okH (12, 13, 0) := am_inP 417 (by decide +kernel) rfl
theorem am_h1 : am_okH (12, 15, 1) := am_inP 418 (by decide +kernel) rfl
theorem am_h2 : am_okH (12, 21, 2) := am_inP 505 (by decide +kernel) rfl
theorem am_h3 : am_okH (12, 27, 3) := am_inP 1046 (by decide +kernel) rfl
def am_hc_0 : List (Nat × Nat × Nat) := [(12, 13, 0), (12, 15, 1), (12, 21, 2), (12, 27, 3)]
theorem am_hc_k0 : ∀ r ∈ am_hc_0, am_okH r := List.forall_mem_cons.mpr ⟨am_h0, List.forall_mem_cons.mpr ⟨am_h1, List.forall_mem_cons.mpr ⟨am_h2, List.forall_mem_cons.mpr ⟨am_h3, fun _ h => absurd h List.not_mem_nil⟩⟩⟩⟩
def am_hc : List (Nat × Nat × Nat) := am_hc_0
theorem am_hc_ok : ∀ r ∈ am_hc, am_okH r := am_hc_k0
def am_okI32 (r : Nat × Nat × Int32) : Prop := am_in (.constant (am_R r.1) r.2.1 r.2.2)
theorem am_e0 : am_okI32 (10, 132, 55295) := am_inP 529 (by decide +kernel) rfl
theorem am_e1 : am_okI32 (10, 133, 57344) := am_inP 530 (by decide +kernel) rfl
theorem am_e2 : am_okI32 (10, 134, 65533) := am_inP 531 (by decide +kernel) rfl
theorem am_e3 : am_okI32 (7, 79, 1000000) := am_inP 558 (by decide +kernel) rfl
theorem am_e4 : am_okI32 (3, 68, 1000000) := am_inP 676 (by decide +kernel) rfl
theorem am_e5 : am_okI32 (5, 69, 1000000) := am_inP 701 (by decide +kernel) rfl
theorem am_e6 : am_okI32 (9, 38, 1000000) := am_inP 797 (by decide +kernel) rfl
theorem am_e7 : am_okI32 (8, 39, 1000000) := am_inP 897 (by decide +kernel) rfl
theorem am_e8 : am_okI32 (11, 162, 55295) := am_inP 1316 (by decide +kernel) rfl
theorem am_e9 : am_okI32 (11, 163, 57344) := am_inP 1317 (by decide +kernel) rfl
theorem am_e10 : am_okI32 (11, 164, 65533) := am_inP 1318 (by decide +kernel) rfl
def am_c32_0 : List (Nat × Nat × Int32) := [(10, 132, 55295), (10, 133, 57344), (10, 134, 65533), (7, 79, 1000000), (3, 68, 1000000), (5, 69, 1000000), (9, 38, 1000000), (8, 39, 1000000), (11, 162, 55295), (11, 163, 57344), (11, 164, 65533)]
theorem am_c32_k0 : ∀ r ∈ am_c32_0, am_okI32 r := List.forall_mem_cons.mpr ⟨am_e0, List.forall_mem_cons.mpr ⟨am_e1, List.forall_mem_cons.mpr ⟨am_e2, List.forall_mem_cons.mpr ⟨am_e3, List.forall_mem_cons.mpr ⟨am_e4, List.forall_mem_cons.mpr ⟨am_e5, List.forall_mem_cons.mpr ⟨am_e6, List.forall_mem_cons.mpr ⟨am_e7, List.forall_mem_cons.mpr ⟨am_e8, List.forall_mem_cons.mpr ⟨am_e9, List.forall_mem_cons.mpr ⟨am_e10, fun _ h => absurd h List.not_mem_nil⟩⟩⟩⟩⟩⟩⟩⟩⟩⟩⟩
def am_c32 : List (Nat × Nat × Int32) := am_c32_0
theorem am_c32_ok : ∀ r ∈ am_c32, am_okI32 r := am_c32_k0
def am_okI64 (r : Nat × Nat × Int64) : Prop := am_in (.constantLong (am_R r.1) r.2.1 r.2.2)
theorem am_g0 : am_okI64 (11, 157, 255) := am_inP 1288 (by decide +kernel) rfl
theorem am_g1 : am_okI64 (11, 238, 75107222706512) := am_inP 1342 (by decide +kernel) rfl
theorem am_g2 : am_okI64 (11, 234, 91643115226445) := am_inP 1363 (by decide +kernel) rfl
theorem am_g3 : am_okI64 (11, 236, 88327114737987) := am_inP 1364 (by decide +kernel) rfl
theorem am_g4 : am_okI64 (11, 259, 18388594520052564) := am_inP 1373 (by decide +kernel) rfl
theorem am_g5 : am_okI64 (11, 274, 288907940929) := am_inP 1390 (by decide +kernel) rfl
theorem am_g6 : am_okI64 (11, 276, 18756) := am_inP 1391 (by decide +kernel) rfl
theorem am_g7 : am_okI64 (11, 278, 5391686) := am_inP 1392 (by decide +kernel) rfl
theorem am_g8 : am_okI64 (11, 280, 22040072686355790) := am_inP 1393 (by decide +kernel) rfl
theorem am_g9 : am_okI64 (11, 306, 5928233911247324484) := am_inP 1401 (by decide +kernel) rfl
theorem am_g10 : am_okI64 (11, 308, 20632680572470596) := am_inP 1402 (by decide +kernel) rfl
theorem am_g11 : am_okI64 (11, 310, 301878232388) := am_inP 1403 (by decide +kernel) rfl
theorem am_g12 : am_okI64 (11, 208, 29755) := am_inP 1424 (by decide +kernel) rfl
theorem am_g13 : am_okI64 (11, 214, 7172155) := am_inP 1425 (by decide +kernel) rfl
theorem am_g14 : am_okI64 (11, 264, 83860532842068) := am_inP 1430 (by decide +kernel) rfl
theorem am_g15 : am_okI64 (11, 318, 297649853529) := am_inP 1435 (by decide +kernel) rfl
theorem am_g16 : am_okI64 (11, 320, 4279897) := am_inP 1436 (by decide +kernel) rfl
theorem am_g17 : am_okI64 (11, 334, 9939874023035969) := am_inP 1441 (by decide +kernel) rfl
theorem am_g18 : am_okI64 (11, 269, 336421540953) := am_inP 1474 (by decide +kernel) rfl
theorem am_g19 : am_okI64 (12, 36, 4294967295) := am_inP 1566 (by decide +kernel) rfl
def am_c64_0 : List (Nat × Nat × Int64) := [(11, 157, 255), (11, 238, 75107222706512), (11, 234, 91643115226445), (11, 236, 88327114737987), (11, 259, 18388594520052564), (11, 274, 288907940929), (11, 276, 18756), (11, 278, 5391686), (11, 280, 22040072686355790), (11, 306, 5928233911247324484), (11, 308, 20632680572470596), (11, 310, 301878232388), (11, 208, 29755), (11, 214, 7172155), (11, 264, 83860532842068), (11, 318, 297649853529)]
theorem am_c64_k0 : ∀ r ∈ am_c64_0, am_okI64 r := List.forall_mem_cons.mpr ⟨am_g0, List.forall_mem_cons.mpr ⟨am_g1, List.forall_mem_cons.mpr ⟨am_g2, List.forall_mem_cons.mpr ⟨am_g3, List.forall_mem_cons.mpr ⟨am_g4, List.forall_mem_cons.mpr ⟨am_g5, List.forall_mem_cons.mpr ⟨am_g6, List.forall_mem_cons.mpr ⟨am_g7, List.forall_mem_cons.mpr ⟨am_g8, List.forall_mem_cons.mpr ⟨am_g9, List.forall_mem_cons.mpr ⟨am_g10, List.forall_mem_cons.mpr ⟨am_g11, List.forall_mem_cons.mpr ⟨am_g12, List.forall_mem_cons.mpr ⟨am_g13, List.forall_mem_cons.mpr ⟨am_g14, List.forall_mem_cons.mpr ⟨am_g15, fun _ h => absurd h List.not_mem_nil⟩⟩⟩⟩⟩⟩⟩⟩⟩⟩⟩⟩⟩⟩⟩⟩
def am_c64_1 : List (Nat × Nat × Int64) := [(11, 320, 4279897), (11, 334, 9939874023035969), (11, 269, 336421540953), (12, 36, 4294967295)]
theorem am_c64_k1 : ∀ r ∈ am_c64_1, am_okI64 r := List.forall_mem_cons.mpr ⟨am_g16, List.forall_mem_cons.mpr ⟨am_g17, List.forall_mem_cons.mpr ⟨am_g18, List.forall_mem_cons.mpr ⟨am_g19, fun _ h => absurd h List.not_mem_nil⟩⟩⟩⟩
def am_c64 : List (Nat × Nat × Int64) := am_c64_0 ++ (am_c64_1)
theorem am_c64_ok : ∀ r ∈ am_c64, am_okI64 r := List.forall_mem_append.mpr ⟨am_c64_k0, am_c64_k1⟩
end
section
/-! STRINGS AND OTHER WORDS (by program) -/
def am_sn : Nat := 33
def am_sx : Nat → String := fun i => (["<!--", "-->", "--", "--->", "<!DOCTYPE", "SYSTEM", "PUBLIC", "[", "]", "<!ELEMENT", "EMPTY", "ANY", "#PCDATA", ")", "*", "(", "<!ATTLIST", "CDATA", "IDREF", "ID", "NMTOKEN", "|", "#REQUIRED", "#IMPLIED", "#FIXED", "&#", "&lt;", "&amp;", "<!ENTITY", "\"", "&#", "/", "</"] : List String).getD i ""
def am_sl : Nat → Nat := fun i => ([4, 3, 2, 4, 9, 6, 6, 1, 1, 9, 5, 3, 7, 1, 1, 1, 9, 5, 5, 2, 7, 1, 9, 8, 6, 2, 4, 5, 8, 1, 2, 1, 2] : List Nat).getD i 0
def am_sB : List (List Int32) := [[60, 33, 45, 45], [45, 45, 62], [45, 45], [45, 45, 45, 62], [60, 33, 68, 79, 67, 84, 89, 80, 69], [83, 89, 83, 84, 69, 77], [80, 85, 66, 76, 73, 67], [91], [93], [60, 33, 69, 76, 69, 77, 69, 78, 84], [69, 77, 80, 84, 89], [65, 78, 89], [35, 80, 67, 68, 65, 84, 65], [41], [42], [40], [60, 33, 65, 84, 84, 76, 73, 83, 84], [67, 68, 65, 84, 65], [73, 68, 82, 69, 70], [73, 68], [78, 77, 84, 79, 75, 69, 78], [124], [35, 82, 69, 81, 85, 73, 82, 69, 68], [35, 73, 77, 80, 76, 73, 69, 68], [35, 70, 73, 88, 69, 68], [38, 35], [38, 108, 116, 59], [38, 97, 109, 112, 59], [60, 33, 69, 78, 84, 73, 84, 89], [34], [38, 35], [47], [60, 47]]
def am_st : List (Nat × Nat × Nat) := [(7, 74, 0), (7, 80, 1), (7, 82, 2), (7, 84, 3), (3, 58, 4), (3, 121, 5), (3, 126, 6), (3, 119, 7), (3, 69, 8), (3, 71, 9), (5, 15, 10), (5, 29, 11), (5, 38, 12), (5, 70, 13), (5, 79, 14), (5, 93, 15), (3, 76, 16), (3, 205, 17), (3, 207, 18), (3, 209, 19), (3, 211, 20), (3, 219, 21), (3, 221, 22), (3, 223, 23), (3, 225, 24), (7, 92, 25), (7, 97, 26), (7, 99, 27), (3, 81, 28), (3, 147, 29), (3, 149, 30), (8, 114, 31), (8, 65, 32)]
def am_okO (r : Nat × Nat × Nat) : Prop := am_in (.methodLink (am_R r.1) r.2.1 Lib.objectInit)
theorem am_o0 : am_okO (10, 3, 0) := am_inP 30 (by decide +kernel) rfl
theorem am_o1 : am_okO (7, 3, 0) := am_inP 38 (by decide +kernel) rfl
theorem am_o2 : am_okO (6, 3, 0) := am_inP 64 (by decide +kernel) rfl
theorem am_o3 : am_okO (9, 3, 0) := am_inP 101 (by decide +kernel) rfl
theorem am_o4 : am_okO (3, 3, 0) := am_inP 124 (by decide +kernel) rfl
theorem am_o5 : am_okO (4, 3, 0) := am_inP 131 (by decide +kernel) rfl
theorem am_o6 : am_okO (0, 3, 0) := am_inP 161 (by decide +kernel) rfl
theorem am_o7 : am_okO (5, 3, 0) := am_inP 217 (by decide +kernel) rfl
theorem am_o8 : am_okO (1, 3, 0) := am_inP 269 (by decide +kernel) rfl
theorem am_o9 : am_okO (8, 3, 0) := am_inP 313 (by decide +kernel) rfl
theorem am_o10 : am_okO (2, 3, 0) := am_inP 335 (by decide +kernel) rfl
theorem am_o11 : am_okO (11, 1, 0) := am_inP 1078 (by decide +kernel) rfl
def am_oiT_0 : List (Nat × Nat × Nat) := [(10, 3, 0), (7, 3, 0), (6, 3, 0), (9, 3, 0), (3, 3, 0), (4, 3, 0), (0, 3, 0), (5, 3, 0), (1, 3, 0), (8, 3, 0), (2, 3, 0), (11, 1, 0)]
theorem am_oiT_k0 : ∀ r ∈ am_oiT_0, am_okO r := List.forall_mem_cons.mpr ⟨am_o0, List.forall_mem_cons.mpr ⟨am_o1, List.forall_mem_cons.mpr ⟨am_o2, List.forall_mem_cons.mpr ⟨am_o3, List.forall_mem_cons.mpr ⟨am_o4, List.forall_mem_cons.mpr ⟨am_o5, List.forall_mem_cons.mpr ⟨am_o6, List.forall_mem_cons.mpr ⟨am_o7, List.forall_mem_cons.mpr ⟨am_o8, List.forall_mem_cons.mpr ⟨am_o9, List.forall_mem_cons.mpr ⟨am_o10, List.forall_mem_cons.mpr ⟨am_o11, fun _ h => absurd h List.not_mem_nil⟩⟩⟩⟩⟩⟩⟩⟩⟩⟩⟩⟩
def am_oiT : List (Nat × Nat × Nat) := am_oiT_0
theorem am_oiT_ok : ∀ r ∈ am_oiT, am_okO r := am_oiT_k0
theorem am_oI : am_in (.instanceMethod Lib.objectInit) := am_inP 31 (by decide +kernel) rfl
theorem am_oC : am_in (.code Lib.objectInit ⟨#[0xb1]⟩ 1 none) := am_inP 32 (by decide +kernel) rfl
def am_okSl (r : Nat × Nat × Nat) : Prop := am_in (.methodLink (am_R r.1) r.2.1 yJ0_length_8abf5)
theorem am_sq0 : am_okSl (7, 50, 0) := am_inP 579 (by decide +kernel) rfl
def am_sli_0 : List (Nat × Nat × Nat) := [(7, 50, 0)]
theorem am_sli_k0 : ∀ r ∈ am_sli_0, am_okSl r := List.forall_mem_cons.mpr ⟨am_sq0, fun _ h => absurd h List.not_mem_nil⟩
def am_sli : List (Nat × Nat × Nat) := am_sli_0
theorem am_sli_ok : ∀ r ∈ am_sli, am_okSl r := am_sli_k0
theorem am_s1 : am_in (.instanceMethod yJ0_length_8abf5) := am_inP 580 (by decide +kernel) rfl
theorem am_s2 : am_in (.selects RJ0 yJ0_length_8abf5 yJ0_length_8abf5) := am_inP 581 (by decide +kernel) rfl
theorem am_s3 : am_in (.initialized RJ0) := am_inP 18 (by decide +kernel) rfl
theorem am_s4 : am_in (.fieldLink RJ0 9 "java/lang/String" "value" "[B") := am_inP 1569 (by decide +kernel) rfl
theorem am_s5 : am_in (.methodLink RJ0 335 yJ0_coder_7d493) := am_inP 583 (by decide +kernel) rfl
theorem am_s6 : am_in (.instanceMethod yJ0_coder_7d493) := am_inP 584 (by decide +kernel) rfl
theorem am_s7 : am_in (.selects RJ0 yJ0_coder_7d493 yJ0_coder_7d493) := am_inP 585 (by decide +kernel) rfl
theorem am_s8 : am_in (.fieldLink RJ0 38 "java/lang/String" "COMPACT_STRINGS" "Z") := am_inP 587 (by decide +kernel) rfl
theorem am_s9 : am_in (.fieldLink RJ0 15 "java/lang/String" "coder" "B") := am_inP 1570 (by decide +kernel) rfl
theorem am_s10 : am_in (.code yJ0_length_8abf5 cJ0_length_8abf5 1 (some .int)) := am_inP 582 (by decide +kernel) rfl
theorem am_s11 : am_in (.code yJ0_coder_7d493 cJ0_coder_7d493 1 (some .byte)) := am_inP 586 (by decide +kernel) rfl
theorem dJ0_length_8abf5_0 : decode cJ0_length_8abf5 0 = .ok (.aload_n 0, 1) := by decide +kernel
theorem dJ0_length_8abf5_1 : decode cJ0_length_8abf5 1 = .ok (.getfield 9, 3) := by decide +kernel
theorem dJ0_length_8abf5_4 : decode cJ0_length_8abf5 4 = .ok (.arraylength, 1) := by decide +kernel
theorem dJ0_length_8abf5_5 : decode cJ0_length_8abf5 5 = .ok (.aload_n 0, 1) := by decide +kernel
theorem dJ0_length_8abf5_6 : decode cJ0_length_8abf5 6 = .ok (.invokevirtual 335, 3) := by decide +kernel
theorem dJ0_length_8abf5_9 : decode cJ0_length_8abf5 9 = .ok (.ishr, 1) := by decide +kernel
theorem dJ0_length_8abf5_10 : decode cJ0_length_8abf5 10 = .ok (.ireturn, 1) := by decide +kernel
theorem dJ0_coder_7d493_0 : decode cJ0_coder_7d493 0 = .ok (.getstatic 38, 3) := by decide +kernel
theorem dJ0_coder_7d493_3 : decode cJ0_coder_7d493 3 = .ok (.ifCond .eq 10, 3) := by decide +kernel
theorem dJ0_coder_7d493_6 : decode cJ0_coder_7d493 6 = .ok (.aload_n 0, 1) := by decide +kernel
theorem dJ0_coder_7d493_7 : decode cJ0_coder_7d493 7 = .ok (.getfield 15, 3) := by decide +kernel
theorem dJ0_coder_7d493_10 : decode cJ0_coder_7d493 10 = .ok (.goto 4, 3) := by decide +kernel
theorem dJ0_coder_7d493_13 : decode cJ0_coder_7d493 13 = .ok (.iconst 1, 1) := by decide +kernel
theorem dJ0_coder_7d493_14 : decode cJ0_coder_7d493 14 = .ok (.ireturn, 1) := by decide +kernel
theorem am_wI : am_in (.arrayClass .int) := am_inP 58 (by decide +kernel) rfl
theorem am_wZ : am_in (.arrayClass .boolean) := am_inP 1275 (by decide +kernel) rfl
theorem am_wJ : am_in (.arrayClass .long) := am_inP 1567 (by decide +kernel) rfl
end
section
theorem am_cst (x : Nat) : am_in (.castable (am_xn x) (am_xn x)) := by
  match x with
  | 0 => exact am_inP 425 (by decide +kernel) rfl
  | 1 => exact am_inP 489 (by decide +kernel) rfl
  | 2 => exact am_inP 661 (by decide +kernel) rfl
  | x + 3 => show am_in (.castable "java/lang/IndexOutOfBoundsException" "java/lang/IndexOutOfBoundsException"); exact am_inP 1053 (by decide +kernel) rfl
end
section
/-! String.charAt OF A CONSTANT, System.arraycopy: words (by program) -/
def am_okSc (r : Nat × Nat × Nat) : Prop := am_in (.methodLink (am_R r.1) r.2.1 yJ0_charAt_5068e)
theorem am_sr0 : am_okSc (7, 56, 0) := am_inP 589 (by decide +kernel) rfl
def am_sci_0 : List (Nat × Nat × Nat) := [(7, 56, 0)]
theorem am_sci_k0 : ∀ r ∈ am_sci_0, am_okSc r := List.forall_mem_cons.mpr ⟨am_sr0, fun _ h => absurd h List.not_mem_nil⟩
def am_sci : List (Nat × Nat × Nat) := am_sci_0
theorem am_sci_ok : ∀ r ∈ am_sci, am_okSc r := am_sci_k0
def am_okAc (r : Nat × Nat × Nat) : Prop := am_in (.methodLink (am_R r.1) r.2.1 arraycopyName)
theorem am_ac0 : am_okAc (0, 49, 0) := am_inP 854 (by decide +kernel) rfl
theorem am_ac1 : am_okAc (1, 44, 0) := am_inP 913 (by decide +kernel) rfl
def am_acT_0 : List (Nat × Nat × Nat) := [(0, 49, 0), (1, 44, 0)]
theorem am_acT_k0 : ∀ r ∈ am_acT_0, am_okAc r := List.forall_mem_cons.mpr ⟨am_ac0, List.forall_mem_cons.mpr ⟨am_ac1, fun _ h => absurd h List.not_mem_nil⟩⟩
def am_acT : List (Nat × Nat × Nat) := am_acT_0
theorem am_acT_ok : ∀ r ∈ am_acT, am_okAc r := am_acT_k0
theorem am_aN : am_in (.native arraycopyName) := am_inP 856 (by decide +kernel) rfl
theorem am_aS : am_in (.static arraycopyName) := am_inP 855 (by decide +kernel) rfl
theorem am_aI : am_in (.initialized "java/lang/System") := am_inP 23 (by decide +kernel) rfl
def RJ1 : String := "java/lang/StringLatin1"
def RJ3 : String := "jdk/internal/util/Preconditions"
theorem am_C0c : am_in (.code yJ0_charAt_5068e cJ0_charAt_5068e 2 (some .char)) := am_inP 592 (by decide +kernel) rfl
theorem dJ0_charAt_5068e_0 : decode cJ0_charAt_5068e 0 = .ok (.aload_n 0, 1) := by decide +kernel
theorem dJ0_charAt_5068e_1 : decode cJ0_charAt_5068e 1 = .ok (.invokevirtual 492, 3) := by decide +kernel
theorem dJ0_charAt_5068e_4 : decode cJ0_charAt_5068e 4 = .ok (.ifCond .eq 12, 3) := by decide +kernel
theorem dJ0_charAt_5068e_7 : decode cJ0_charAt_5068e 7 = .ok (.aload_n 0, 1) := by decide +kernel
theorem dJ0_charAt_5068e_8 : decode cJ0_charAt_5068e 8 = .ok (.getfield 9, 3) := by decide +kernel
theorem dJ0_charAt_5068e_11 : decode cJ0_charAt_5068e 11 = .ok (.iload_n 1, 1) := by decide +kernel
theorem dJ0_charAt_5068e_12 : decode cJ0_charAt_5068e 12 = .ok (.invokestatic 495, 3) := by decide +kernel
theorem dJ0_charAt_5068e_15 : decode cJ0_charAt_5068e 15 = .ok (.ireturn, 1) := by decide +kernel
theorem dJ0_charAt_5068e_16 : decode cJ0_charAt_5068e 16 = .ok (.aload_n 0, 1) := by decide +kernel
theorem dJ0_charAt_5068e_17 : decode cJ0_charAt_5068e 17 = .ok (.getfield 9, 3) := by decide +kernel
theorem dJ0_charAt_5068e_20 : decode cJ0_charAt_5068e 20 = .ok (.iload_n 1, 1) := by decide +kernel
theorem dJ0_charAt_5068e_21 : decode cJ0_charAt_5068e 21 = .ok (.invokestatic 498, 3) := by decide +kernel
theorem dJ0_charAt_5068e_24 : decode cJ0_charAt_5068e 24 = .ok (.ireturn, 1) := by decide +kernel
abbrev cJ0_isLatin1_aae02 : ByteArray := prog_19_method_154_code
def yJ0_isLatin1_aae02 : MethodName := ⟨RJ0, "isLatin1", "()Z"⟩
theorem am_ILc : am_in (.code yJ0_isLatin1_aae02 cJ0_isLatin1_aae02 1 (some .boolean)) := am_inP 596 (by decide +kernel) rfl
theorem dJ0_isLatin1_aae02_0 : decode cJ0_isLatin1_aae02 0 = .ok (.getstatic 38, 3) := by decide +kernel
theorem dJ0_isLatin1_aae02_3 : decode cJ0_isLatin1_aae02 3 = .ok (.ifCond .eq 14, 3) := by decide +kernel
theorem dJ0_isLatin1_aae02_6 : decode cJ0_isLatin1_aae02 6 = .ok (.aload_n 0, 1) := by decide +kernel
theorem dJ0_isLatin1_aae02_7 : decode cJ0_isLatin1_aae02 7 = .ok (.getfield 15, 3) := by decide +kernel
theorem dJ0_isLatin1_aae02_10 : decode cJ0_isLatin1_aae02 10 = .ok (.ifCond .ne 7, 3) := by decide +kernel
theorem dJ0_isLatin1_aae02_13 : decode cJ0_isLatin1_aae02 13 = .ok (.iconst 1, 1) := by decide +kernel
theorem dJ0_isLatin1_aae02_14 : decode cJ0_isLatin1_aae02 14 = .ok (.goto 4, 3) := by decide +kernel
theorem dJ0_isLatin1_aae02_17 : decode cJ0_isLatin1_aae02 17 = .ok (.iconst 0, 1) := by decide +kernel
theorem dJ0_isLatin1_aae02_18 : decode cJ0_isLatin1_aae02 18 = .ok (.ireturn, 1) := by decide +kernel
abbrev cJ1_charAt_3b067 : ByteArray := prog_20_method_2_code
def yJ1_charAt_3b067 : MethodName := ⟨RJ1, "charAt", "([BI)C"⟩
theorem am_LCc : am_in (.code yJ1_charAt_3b067 cJ1_charAt_3b067 2 (some .char)) := am_inP 599 (by decide +kernel) rfl
theorem dJ1_charAt_3b067_0 : decode cJ1_charAt_3b067 0 = .ok (.iload_n 1, 1) := by decide +kernel
theorem dJ1_charAt_3b067_1 : decode cJ1_charAt_3b067 1 = .ok (.aload_n 0, 1) := by decide +kernel
theorem dJ1_charAt_3b067_2 : decode cJ1_charAt_3b067 2 = .ok (.arraylength, 1) := by decide +kernel
theorem dJ1_charAt_3b067_3 : decode cJ1_charAt_3b067 3 = .ok (.invokestatic 9, 3) := by decide +kernel
theorem dJ1_charAt_3b067_6 : decode cJ1_charAt_3b067 6 = .ok (.aload_n 0, 1) := by decide +kernel
theorem dJ1_charAt_3b067_7 : decode cJ1_charAt_3b067 7 = .ok (.iload_n 1, 1) := by decide +kernel
theorem dJ1_charAt_3b067_8 : decode cJ1_charAt_3b067 8 = .ok (.baload, 1) := by decide +kernel
theorem dJ1_charAt_3b067_9 : decode cJ1_charAt_3b067 9 = .ok (.sipush 255, 3) := by decide +kernel
theorem dJ1_charAt_3b067_12 : decode cJ1_charAt_3b067 12 = .ok (.iand, 1) := by decide +kernel
theorem dJ1_charAt_3b067_13 : decode cJ1_charAt_3b067 13 = .ok (.i2c, 1) := by decide +kernel
theorem dJ1_charAt_3b067_14 : decode cJ1_charAt_3b067 14 = .ok (.ireturn, 1) := by decide +kernel
abbrev cJ0_checkIndex_df160 : ByteArray := prog_19_method_155_code
def yJ0_checkIndex_df160 : MethodName := ⟨RJ0, "checkIndex", "(II)V"⟩
theorem am_CIc : am_in (.code yJ0_checkIndex_df160 cJ0_checkIndex_df160 2 (none)) := am_inP 602 (by decide +kernel) rfl
theorem dJ0_checkIndex_df160_0 : decode cJ0_checkIndex_df160 0 = .ok (.iload_n 0, 1) := by decide +kernel
theorem dJ0_checkIndex_df160_1 : decode cJ0_checkIndex_df160 1 = .ok (.iload_n 1, 1) := by decide +kernel
theorem dJ0_checkIndex_df160_2 : decode cJ0_checkIndex_df160 2 = .ok (.getstatic 1053, 3) := by decide +kernel
theorem dJ0_checkIndex_df160_5 : decode cJ0_checkIndex_df160 5 = .ok (.invokestatic 1059, 3) := by decide +kernel
theorem dJ0_checkIndex_df160_8 : decode cJ0_checkIndex_df160 8 = .ok (.pop, 1) := by decide +kernel
theorem dJ0_checkIndex_df160_9 : decode cJ0_checkIndex_df160 9 = .ok (.return_, 1) := by decide +kernel
abbrev cJ3_checkIndex_8e157 : ByteArray := prog_25_method_11_code
def yJ3_checkIndex_8e157 : MethodName := ⟨RJ3, "checkIndex", "(IILjava/util/function/BiFunction;)I"⟩
theorem am_PCc : am_in (.code yJ3_checkIndex_8e157 cJ3_checkIndex_8e157 3 (some .int)) := am_inP 607 (by decide +kernel) rfl
theorem dJ3_checkIndex_8e157_0 : decode cJ3_checkIndex_8e157 0 = .ok (.iload_n 0, 1) := by decide +kernel
theorem dJ3_checkIndex_8e157_1 : decode cJ3_checkIndex_8e157 1 = .ok (.ifCond .lt 8, 3) := by decide +kernel
theorem dJ3_checkIndex_8e157_4 : decode cJ3_checkIndex_8e157 4 = .ok (.iload_n 0, 1) := by decide +kernel
theorem dJ3_checkIndex_8e157_5 : decode cJ3_checkIndex_8e157 5 = .ok (.iload_n 1, 1) := by decide +kernel
theorem dJ3_checkIndex_8e157_6 : decode cJ3_checkIndex_8e157 6 = .ok (.if_icmp .lt 10, 3) := by decide +kernel
theorem dJ3_checkIndex_8e157_9 : decode cJ3_checkIndex_8e157 9 = .ok (.aload_n 2, 1) := by decide +kernel
theorem dJ3_checkIndex_8e157_10 : decode cJ3_checkIndex_8e157 10 = .ok (.iload_n 0, 1) := by decide +kernel
theorem dJ3_checkIndex_8e157_11 : decode cJ3_checkIndex_8e157 11 = .ok (.iload_n 1, 1) := by decide +kernel
theorem dJ3_checkIndex_8e157_12 : decode cJ3_checkIndex_8e157 12 = .ok (.invokestatic 95, 3) := by decide +kernel
theorem dJ3_checkIndex_8e157_15 : decode cJ3_checkIndex_8e157 15 = .ok (.athrow, 1) := by decide +kernel
theorem dJ3_checkIndex_8e157_16 : decode cJ3_checkIndex_8e157 16 = .ok (.iload_n 0, 1) := by decide +kernel
theorem dJ3_checkIndex_8e157_17 : decode cJ3_checkIndex_8e157 17 = .ok (.ireturn, 1) := by decide +kernel
theorem am_C0i : am_in (.instanceMethod yJ0_charAt_5068e) := am_inP 590 (by decide +kernel) rfl
theorem am_C0s : am_in (.selects RJ0 yJ0_charAt_5068e yJ0_charAt_5068e) := am_inP 591 (by decide +kernel) rfl
theorem am_ILl : am_in (.methodLink RJ0 492 yJ0_isLatin1_aae02) := am_inP 593 (by decide +kernel) rfl
theorem am_ILi : am_in (.instanceMethod yJ0_isLatin1_aae02) := am_inP 594 (by decide +kernel) rfl
theorem am_ILs : am_in (.selects RJ0 yJ0_isLatin1_aae02 yJ0_isLatin1_aae02) := am_inP 595 (by decide +kernel) rfl
theorem am_LCl : am_in (.methodLink RJ0 495 yJ1_charAt_3b067) := am_inP 597 (by decide +kernel) rfl
theorem am_LCs : am_in (.static yJ1_charAt_3b067) := am_inP 598 (by decide +kernel) rfl
theorem am_CIl : am_in (.methodLink RJ1 9 yJ0_checkIndex_df160) := am_inP 600 (by decide +kernel) rfl
theorem am_CIs : am_in (.static yJ0_checkIndex_df160) := am_inP 601 (by decide +kernel) rfl
theorem am_PCl : am_in (.methodLink RJ0 1059 yJ3_checkIndex_8e157) := am_inP 605 (by decide +kernel) rfl
theorem am_PCs : am_in (.static yJ3_checkIndex_8e157) := am_inP 606 (by decide +kernel) rfl
theorem am_LCn : am_in (.initialized RJ1) := am_inP 19 (by decide +kernel) rfl
theorem am_PCn : am_in (.initialized RJ3) := am_inP 20 (by decide +kernel) rfl
theorem am_SF : am_in (.fieldLink RJ0 1053 "jdk/internal/util/Preconditions" "SIOOBE_FORMATTER" "Ljava/util/function/BiFunction;") := am_inP 603 (by decide +kernel) rfl
end
section
/-! AN ABSTRACT MACHINE for the class, the reference and the law: references are numbers of cells, 'float u' and 'double u' stand for an int and a long that aren't known. It is sound for the model's machine (next part). -/
abbrev aC := Bool × Nat × List Value
abbrev aH := List (Option aC)
abbrev aL := List (Nat × Value)
abbrev aR := (Option Value ⊕ Nat) × aH × Nat × Nat
abbrev aN := Nat × aL × List Value × aH × Nat × Nat
/-- the script; what is known of symbols: results, comparisons -/
abbrev aX := List Value × List (Instr × Value × Value × Value) × List (ClassFile.Cond × Value × Value × Bool)
abbrev aE := (Nat → Nat) × (Nat → Int32) × (Nat → Int64)
def am_tv (E : aE) : Value → Value
  | .ref k => .ref (E.1 k)
  | .float u => .int (E.2.1 u.toNat)
  | .double u => .long (E.2.2 u.toNat)
  | v => v
def am_isI : Value → Bool
  | .int _ => true
  | .float _ => true
  | _ => false
def am_isL : Value → Bool
  | .long _ => true
  | .double _ => true
  | _ => false
def am_isR : Value → Bool
  | .ref _ => true
  | _ => false
def am_look {α : Type} : List (Nat × α) → Nat → Option α
  | [], _ => none
  | a :: t, k => match Nat.beq a.1 k with
    | true => some a.2
    | false => am_look t k
def am_look2 {α : Type} : List (Nat × Nat × α) → Nat → Nat → Option α
  | [], _, _ => none
  | a :: t, o, k => match Nat.beq a.1 o && Nat.beq a.2.1 k with
    | true => some a.2.2
    | false => am_look2 t o k
def am_ilen : Instr → Nat
  | .bipush _ => 2
  | .sipush _ => 3
  | .iload _ => 2
  | .aload _ => 2
  | .istore _ => 2
  | .astore _ => 2
  | .ldc _ => 2
  | .newarray _ => 2
  | .iinc _ _ => 3
  | .ifCond _ _ => 3
  | .if_icmp _ _ => 3
  | .goto _ => 3
  | .getfield _ => 3
  | .putfield _ => 3
  | .new _ => 3
  | .anewarray _ => 3
  | .ldc2_w _ => 3
  | .invokestatic _ => 3
  | .invokevirtual _ => 3
  | .invokespecial _ => 3
  | _ => 1
-- the operand stack alone
def am_ii (f : Int32 → Int32 → Int32) : List Value → Option (List Value)
  | .int y :: .int x :: S => some (.int (f x y) :: S)
  | _ => none
def am_ll (f : Int64 → Int64 → Int64) : List Value → Option (List Value)
  | .long y :: .long x :: S => some (.long (f x y) :: S)
  | _ => none
def am_li (f : Int64 → Int32 → Int64) : List Value → Option (List Value)
  | .int y :: .long x :: S => some (.long (f x y) :: S)
  | _ => none
def am_neg : List Value → Option (List Value)
  | .int x :: S => some (.int (-x) :: S)
  | _ => none
def am_i2l : List Value → Option (List Value)
  | .int x :: S => some (.long x.toInt64 :: S)
  | _ => none
def am_l2i : List Value → Option (List Value)
  | .long x :: S => some (.int x.toInt32 :: S)
  | _ => none
def am_lcmp : List Value → Option (List Value)
  | .long y :: .long x :: S => some (.int (lg_cmp x y) :: S)
  | _ => none
def am_dup : List Value → Option (List Value)
  | v :: S => match Nat.beq v.category 1 with
    | true => some (v :: v :: S)
    | false => none
  | _ => none
def am_pop : List Value → Option (List Value)
  | v :: S => match Nat.beq v.category 1 with
    | true => some S
    | false => none
  | _ => none
def am_dup2 : List Value → Option (List Value)
  | v :: u :: S => match Nat.beq v.category 1 && Nat.beq u.category 1 with
    | true => some (v :: u :: v :: u :: S)
    | false => none
  | _ => none
def am_pure (i : Instr) (S : List Value) : Option (List Value) := match i with
  | .iconst n => some (.int (Int32.ofInt n) :: S)
  | .bipush n => some (.int (Int8.ofInt n).toInt32 :: S)
  | .sipush n => some (.int (Int16.ofInt n).toInt32 :: S)
  | .iadd => am_ii (fun x y => x + y) S
  | .isub => am_ii (fun x y => x - y) S
  | .imul => am_ii (fun x y => x * y) S
  | .iand => am_ii (fun x y => x &&& y) S
  | .ior => am_ii (fun x y => x ||| y) S
  | .ishl => am_ii (fun x y => x <<< (y &&& 31)) S
  | .ishr => am_ii (fun x y => x >>> (y &&& 31)) S
  | .ineg => am_neg S
  | .i2l => am_i2l S
  | .l2i => am_l2i S
  | .land => am_ll (fun x y => x &&& y) S
  | .lor => am_ll (fun x y => x ||| y) S
  | .lshl => am_li (fun x y => x <<< (y.toInt64 &&& 63)) S
  | .lshr => am_li (fun x y => x >>> (y.toInt64 &&& 63)) S
  | .lcmp => am_lcmp S
  | .dup => am_dup S
  | .pop => am_pop S
  | .dup2 => am_dup2 S
  | _ => none
-- loads and stores of local variables
def am_chk (p : Value → Bool) : Option Value → Option Value
  | some v => match p v with
    | true => some v
    | false => none
  | none => none
def am_ld (i : Instr) (L : aL) : Option Value := match i with
  | .iload k => am_chk am_isI (am_look L k)
  | .iload_n k => am_chk am_isI (am_look L k.val)
  | .aload k => am_chk am_isR (am_look L k)
  | .aload_n k => am_chk am_isR (am_look L k.val)
  | .lload_n k => am_chk am_isL (am_look L k.val)
  | _ => none
def am_put (L : aL) (i : Nat) (v : Value) : aL := (i, v) :: L.filter (fun q => !(q.1 == i) && !(q.1 + 1 == i && q.2.category == 2))
def am_hd (p : Value → Bool) (k : Nat) : List Value → Option (Nat × Value × List Value)
  | v :: S => match p v with
    | true => some (k, v, S)
    | false => none
  | [] => none
def am_inc (k : Nat) (n : Int) (S : List Value) : Option Value → Option (Nat × Value × List Value)
  | some (.int x) => some (k, .int (x + Int32.ofInt n), S)
  | _ => none
def am_sto (i : Instr) (L : aL) (S : List Value) : Option (Nat × Value × List Value) := match i with
  | .istore k => am_hd am_isI k S
  | .istore_n k => am_hd am_isI k.val S
  | .astore k => am_hd am_isR k S
  | .astore_n k => am_hd am_isR k.val S
  | .iinc k n => am_inc k n S (am_look L k)
  | _ => none
-- branches
def am_tgt (pc : Nat) (off : Int) : Option Nat := match (pc : Int) + off with
  | .ofNat t => some t
  | _ => none
def am_cnd (c : ClassFile.Cond) (x y : Int32) : Bool := match c with
  | .eq => decide (x = y)
  | .ne => decide (¬ x = y)
  | .lt => decide (x < y)
  | .ge => decide (y ≤ x)
  | .gt => decide (y < x)
  | .le => decide (x ≤ y)
def am_go (b : Bool) (pc : Nat) (off : Int) (S : List Value) : Option (Nat × List Value) := match am_tgt pc off with
  | some t => some (bif b then t else pc + 3, S)
  | none => none
def am_b1 (c : ClassFile.Cond) (off : Int) (pc : Nat) : List Value → Option (Nat × List Value)
  | .int x :: S => am_go (am_cnd c x 0) pc off S
  | _ => none
def am_b2 (c : ClassFile.Cond) (off : Int) (pc : Nat) : List Value → Option (Nat × List Value)
  | .int y :: .int x :: S => am_go (am_cnd c x y) pc off S
  | _ => none
def am_sw (d lo hi : Int) (offs : Array Int) (pc : Nat) : List Value → Option (Nat × List Value)
  | .int x :: S => match decide (x.toInt < lo ∨ hi < x.toInt) with
    | true => am_go true pc d S
    | false => match offs[(x.toInt - lo).toNat]? with
      | some o => am_go true pc o S
      | none => none
  | _ => none
def am_br (i : Instr) (pc : Nat) (S : List Value) : Option (Nat × List Value) := match i with
  | .ifCond c off => am_b1 c off pc S
  | .if_icmp c off => am_b2 c off pc S
  | .goto off => am_go true pc off S
  | .tableswitch d lo hi offs => am_sw d lo hi offs pc S
  | _ => none
-- the heap
def am_get (h : aH) (k : Nat) : Option aC := match Nat.blt k 1000000 with
  | true => match h[k]? with
    | some (some c) => some c
    | _ => none
  | false => none
def am_fit (ty : FieldType) (v : Value) : Bool := match ty with
  | .int => am_isI v
  | .boolean => decide (v = .int 0) || decide (v = .int 1)
  | .object _ => am_isR v || decide (v = .null)
  | .array _ => am_isR v || decide (v = .null)
  | _ => false
def am_getf (o idx : Nat) (S : List Value) (h : aH) : Option (List Value) := match S with
  | .ref r :: S => match am_look2 am_fd o idx with
    | some (ci, k) => match am_get h r with
      | some (false, cj, fs) => match Nat.beq ci cj with
        | true => match fs[k]? with
          | some v => some (v :: S)
          | none => none
        | false => none
      | _ => none
    | none => none
  | _ => none
def am_nf (ci : Nat) : Nat := match vwCl[ci]? with
  | some q => q.2.2
  | none => 0
def am_fin (ci k : Nat) : Bool := match vwCl[ci]? with
  | some q => (q.2.1 k).2.2.2
  | none => true
def am_putf (o : Nat) (ini : Bool) (idx : Nat) (S : List Value) (h : aH) : Option (List Value × aH) := match S with
  | v :: .ref r :: S => match am_look2 am_fd o idx with
    | some (ci, k) => match am_get h r with
      | some (false, cj, fs) => match Nat.beq ci cj && Nat.beq fs.length (am_nf ci) && am_fit (am_ty ci k) v && (!(am_fin ci k) || (ini && Nat.beq o ci)) with
        | true => some (S, h.set r (some (false, ci, fs.set k v)))
        | false => none
      | _ => none
    | none => none
  | _ => none
def am_ix (x : Int32) (l : List Value) : Option Value := match decide (x < 0) with
  | true => none
  | false => l[x.toNatClampNeg]?
def am_ald (xs : List Value) (tk : Nat) (S : List Value) (h : aH) : Option (List Value) := match S with
  | .int i :: .ref r :: S => match am_get h r with
    | some (true, tj, l) => match Nat.beq tj tk with
      | true => match am_ix i l with
        | some v => some (v :: S)
        | none => none
      | false => none
    | some _ => none
    | none => match Nat.beq r 2000000 && Nat.beq tk 0 with
      | true => match am_ix i xs with
        | some v => some (v :: S)
        | none => none
      | false => none
  | _ => none
def am_el0 (v : Value) : Option Value := match am_isI v with
  | true => some v
  | false => none
def am_el1 : Value → Option Value
  | .int x => some (.int (x &&& 1))
  | _ => none
def am_el2 (v : Value) : Option Value := match am_isL v with
  | true => some v
  | false => none
def am_el3 (h : aH) : Value → Option Value
  | .ref r => match am_get h r with
    | some (false, ci, _) => match Nat.beq ci 4 with
      | true => some (.ref r)
      | false => none
    | _ => none
  | _ => none
def am_elt (tk : Nat) (h : aH) (v : Value) : Option Value := match tk with
  | 0 => am_el0 v
  | 1 => am_el1 v
  | 2 => am_el2 v
  | 3 => am_el3 h v
  | _ => none
def am_ast (tk : Nat) (S : List Value) (h : aH) : Option (List Value × aH) := match S with
  | v :: .int i :: .ref r :: S => match am_get h r with
    | some (true, tj, l) => match Nat.beq tj tk && !(decide (i < 0)) && Nat.blt i.toNatClampNeg l.length with
      | true => match am_elt tk h v with
        | some w => some (S, h.set r (some (true, tk, l.set i.toNatClampNeg w)))
        | none => none
      | false => none
    | _ => none
  | _ => none
def am_len (xs : List Value) (S : List Value) (h : aH) : Option (List Value) := match S with
  | .ref r :: S => match am_get h r with
    | some (true, _, l) => some (.int (Int32.ofNat l.length) :: S)
    | some _ => none
    | none => match Nat.beq r 2000000 with
      | true => some (.int (Int32.ofNat xs.length) :: S)
      | false => none
  | _ => none
def am_plain : Value → Bool
  | .int _ => true
  | .null => true
  | _ => false
def am_blank (ci : Nat) : List Value := (List.range (am_nf ci)).map (fun k => defaultValue (am_ty ci k))
def am_new (o idx : Nat) (S : List Value) (h : aH) : Option (List Value × aH × Nat) := match am_look2 am_nw o idx with
  | some ci => match Nat.blt h.length 1000000 && (am_blank ci).all am_plain with
    | true => some (.ref h.length :: S, h ++ [some (false, ci, am_blank ci)], am_nf ci)
    | false => none
  | none => none
def am_newa (tk : Nat) (z : Value) (S : List Value) (h : aH) : Option (List Value × aH × Nat) := match S with
  | .int n :: S => match decide (n < 0) || !(Nat.blt h.length 1000000) || !(Nat.blt n.toNatClampNeg 1000000) with
    | true => none
    | false => some (.ref h.length :: S, h ++ [some (true, tk, List.replicate n.toNatClampNeg z)], n.toNatClampNeg)
  | _ => none
def am_fo : List (ClassFile.Cond × Value × Value × Bool) → ClassFile.Cond → Value → Value → Option Bool
  | [], _, _, _ => none
  | q :: t, c, a, b => match decide (q.1 = c) && decide (q.2.1 = a) && decide (q.2.2.1 = b) with
    | true => some q.2.2.2
    | false => am_fo t c a b
def am_fy : List (Instr × Value × Value × Value) → Instr → Value → Value → Option Value
  | [], _, _, _ => none
  | q :: t, i, a, b => match decide (q.1 = i) && decide (q.2.1 = a) && decide (q.2.2.1 = b) with
    | true => some q.2.2.2
    | false => am_fy t i a b
def am_ob1 (O : List (ClassFile.Cond × Value × Value × Bool)) (c : ClassFile.Cond) (off : Int) (pc : Nat) : List Value → Option (Nat × List Value)
  | a :: T => match am_fo O c a (.int 0) with
    | some t => am_go t pc off T
    | none => none
  | [] => none
def am_ob2 (O : List (ClassFile.Cond × Value × Value × Bool)) (c : ClassFile.Cond) (off : Int) (pc : Nat) : List Value → Option (Nat × List Value)
  | y :: x :: T => match am_fo O c x y with
    | some t => am_go t pc off T
    | none => none
  | _ => none
def am_osw (O : List (ClassFile.Cond × Value × Value × Bool)) (d lo hi : Int) (pc : Nat) : List Value → Option (Nat × List Value)
  | a :: T => match decide ((Int32.ofInt lo).toInt = lo) && decide ((Int32.ofInt hi).toInt = hi) with
    | true => match am_fo O .lt a (.int (Int32.ofInt lo)) with
      | some true => am_go true pc d T
      | _ => match am_fo O .gt a (.int (Int32.ofInt hi)) with
        | some true => am_go true pc d T
        | _ => none
    | false => none
  | [] => none
def am_obr (O : List (ClassFile.Cond × Value × Value × Bool)) (i : Instr) (pc : Nat) (S : List Value) : Option (Nat × List Value) := match i with
  | .ifCond c off => am_ob1 O c off pc S
  | .if_icmp c off => am_ob2 O c off pc S
  | .tableswitch d lo hi _ => am_osw O d lo hi pc S
  | _ => none
def am_sym1 (Y : List (Instr × Value × Value × Value)) (i : Instr) : List Value → Option (List Value)
  | a :: T => match am_fy Y i a .null with
    | some r => some (r :: T)
    | none => none
  | [] => none
def am_sym2 (Y : List (Instr × Value × Value × Value)) (i : Instr) : List Value → Option (List Value)
  | a :: b :: T => match decide (b = .null) with
    | true => none
    | false => match am_fy Y i a b with
      | some r => some (r :: T)
      | none => none
  | _ => none
def am_sym (Y : List (Instr × Value × Value × Value)) (i : Instr) (S : List Value) : Option (List Value) := match am_sym2 Y i S with
  | some S' => some S'
  | none => am_sym1 Y i S
def am_isT : Instr → Bool
  | .tableswitch .. => true
  | _ => false
/-- instructions that stay in the method and call nothing: where it goes on, cells and slots made -/
def am_sim (xs : aX) (r : aM) (i : Instr) (len pc : Nat) (L : aL) (S : List Value) (h : aH) : Option aN :=
  match am_br i pc S with
  | some q => match Nat.beq len (am_ilen i) || am_isT i with
    | true => some (q.1, L, q.2, h, 0, 0)
    | false => none
  | none => match am_obr xs.2.2 i pc S with
  | some q => match Nat.beq len (am_ilen i) || am_isT i with
    | true => some (q.1, L, q.2, h, 0, 0)
    | false => none
  | none => match Nat.beq len (am_ilen i) with
    | false => none
    | true => match am_pure i S with
      | some S' => some (pc + len, L, S', h, 0, 0)
      | none => match am_ld i L with
        | some v => some (pc + len, L, v :: S, h, 0, 0)
        | none => match am_sto i L S with
          | some q => match Nat.blt q.1 r.2.2.1 with
            | true => some (pc + len, am_put L q.1 q.2.1, q.2.2, h, 0, 0)
            | false => none
          | none => match i with
            | .getfield idx => (am_getf r.2.2.2.2.1 idx S h).map (fun S' => (pc + 3, L, S', h, 0, 0))
            | .putfield idx => (am_putf r.2.2.2.2.1 (decide (r.1.name = "<init>")) idx S h).map (fun q => (pc + 3, L, q.1, q.2, 0, 0))
            | .iaload => (am_ald xs.1 0 S h).map (fun S' => (pc + 1, L, S', h, 0, 0))
            | .baload => (am_ald xs.1 1 S h).map (fun S' => (pc + 1, L, S', h, 0, 0))
            | .laload => (am_ald xs.1 2 S h).map (fun S' => (pc + 1, L, S', h, 0, 0))
            | .aaload => (am_ald xs.1 3 S h).map (fun S' => (pc + 1, L, S', h, 0, 0))
            | .iastore => (am_ast 0 S h).map (fun q => (pc + 1, L, q.1, q.2, 0, 0))
            | .bastore => (am_ast 1 S h).map (fun q => (pc + 1, L, q.1, q.2, 0, 0))
            | .lastore => (am_ast 2 S h).map (fun q => (pc + 1, L, q.1, q.2, 0, 0))
            | .aastore => (am_ast 3 S h).map (fun q => (pc + 1, L, q.1, q.2, 0, 0))
            | .arraylength => (am_len xs.1 S h).map (fun S' => (pc + 1, L, S', h, 0, 0))
            | .new idx => (am_new r.2.2.2.2.1 idx S h).map (fun q => (pc + 3, L, q.1, q.2.1, 1, q.2.2))
            | .newarray .int => (am_newa 0 (.int 0) S h).map (fun q => (pc + 2, L, q.1, q.2.1, 1, q.2.2))
            | .newarray .boolean => (am_newa 1 (.int 0) S h).map (fun q => (pc + 2, L, q.1, q.2.1, 1, q.2.2))
            | .newarray .long => (am_newa 2 (.long 0) S h).map (fun q => (pc + 2, L, q.1, q.2.1, 1, q.2.2))
            | .anewarray idx => match am_look2 am_nw r.2.2.2.2.1 idx with
              | some 4 => (am_newa 3 .null S h).map (fun q => (pc + 3, L, q.1, q.2.1, 1, q.2.2))
              | _ => none
            | .ldc idx => match am_look2 am_c32 r.2.2.2.2.1 idx with
              | some v => some (pc + 2, L, .int v :: S, h, 0, 0)
              | none => none
            | .ldc2_w idx => match am_look2 am_c64 r.2.2.2.2.1 idx with
              | some v => some (pc + 3, L, .long v :: S, h, 0, 0)
              | none => none
            | i => (am_sym xs.2.1 i S).map (fun S' => (pc + len, L, S', h, 0, 0))
end
section
/-! THE ABSTRACT MACHINE IS SOUND, instruction by instruction -/
theorem am_cat (E : aE) (v : Value) : (am_tv E v).category = v.category := by cases v <;> rfl
theorem am_tvI {E : aE} {v : Value} (h : am_isI v = true) : ∃ x, am_tv E v = .int x := by
  cases v <;> first | exact ⟨_, rfl⟩ | cases h
theorem am_tvL {E : aE} {v : Value} (h : am_isL v = true) : ∃ x, am_tv E v = .long x := by
  cases v <;> first | exact ⟨_, rfl⟩ | cases h
theorem am_tvR {v : Value} (h : am_isR v = true) : ∃ k, v = .ref k := by
  cases v <;> first | exact ⟨_, rfl⟩ | cases h
theorem am_look_mem {α : Type} : ∀ {l : List (Nat × α)} {k : Nat} {b : α}, am_look l k = some b → (k, b) ∈ l
  | [], _, _, h => by cases h
  | a :: t, k, b, h => by
    unfold am_look at h
    split at h
    · rename_i h9
      cases h
      have : a.1 = k := Nat.eq_of_beq_eq_true h9
      subst this
      exact List.mem_cons_self
    · exact List.mem_cons_of_mem _ (am_look_mem h)
theorem am_look2_mem {α : Type} : ∀ {l : List (Nat × Nat × α)} {o k : Nat} {b : α}, am_look2 l o k = some b → (o, k, b) ∈ l
  | [], _, _, _, h => by cases h
  | a :: t, o, k, b, h => by
    unfold am_look2 at h
    split at h
    · rename_i h9
      cases h
      simp only [Bool.and_eq_true] at h9
      have h1 : a.1 = o := Nat.eq_of_beq_eq_true h9.1
      have h2 : a.2.1 = k := Nat.eq_of_beq_eq_true h9.2
      subst h1; subst h2
      exact List.mem_cons_self
    · exact List.mem_cons_of_mem _ (am_look2_mem h)
def am_lm (E : aE) (L : aL) : List (Nat × Value) := L.map (fun q => (q.1, am_tv E q.2))
theorem am_lm_at {E : aE} {L : aL} {ls : Array Slot} {nL : Nat} (hl : lv_has ls nL (am_lm E L)) {k : Nat} {v : Value} (h : am_look L k = some v) : ls[k]? = some (.val (am_tv E v)) :=
  hl.2.2 (k, am_tv E v) (List.mem_map.mpr ⟨(k, v), am_look_mem h, rfl⟩)
theorem am_put_lm (E : aE) (L : aL) (i : Nat) (v : Value) : (i, am_tv E v) :: (am_lm E L).filter (fun q => !(q.1 == i) && !(q.1 + 1 == i && q.2.category == 2)) = am_lm E (am_put L i v) := by
  unfold am_put am_lm
  rw [List.map_cons, List.filter_map]
  congr 3
  funext q
  simp only [Function.comp, am_cat]
def am_aty : Nat → FieldType := fun t => match t with
  | 0 => .int
  | 1 => .boolean
  | 2 => .long
  | _ => .object RX4
abbrev am_tys (dA : Nat → ClassId) : List (ClassId × FieldType) := [(dA 0, .int), (dA 1, .boolean), (dA 2, .long), (dA 3, .object RX4)]
abbrev am_A (B : Nat) : Nat → Prop := fun q => B ≤ q
/-- the constants of type String -/
def am_GS (B : Nat) (E : aE) (U : State) : Prop := va_Z "java/lang/String" "COMPACT_STRINGS" "Z" (.int 1) (am_A B) U U.heap ∧ (∀ r ∈ am_st, vk_R (am_R r.1) r.2.1 (am_sx r.2.2) (E.1 (1000000 + r.2.2)) U) ∧
  ∃ adV : Nat → Nat, ∀ i, i < am_sn → va_O "java/lang/String" (E.1 (1000000 + i)) (am_A B) U U.heap ∧ va_OF "java/lang/String" "coder" "B" (.int 0) (E.1 (1000000 + i)) (am_A B) U U.heap ∧ va_OF "java/lang/String" "value" "[B" (.ref (adV i)) (E.1 (1000000 + i)) (am_A B) U U.heap ∧
    va_T .byte (adV i) (am_sl i) (fun j => .int ((am_sB.getD i []).getD j 0)) (am_A B) U U.heap
/-- what is said of symbols is true of what they stand for -/
def am_Yv (E : aE) (q : Instr × Value × Value × Value) : Prop := (q.2.2.1 = .null ∧ ∀ T, am_pure q.1 (am_tv E q.2.1 :: T) = some (am_tv E q.2.2.2 :: T)) ∨ (q.2.2.1 ≠ .null ∧ ∀ T, am_pure q.1 (am_tv E q.2.1 :: am_tv E q.2.2.1 :: T) = some (am_tv E q.2.2.2 :: T))
def am_Ov (E : aE) (q : ClassFile.Cond × Value × Value × Bool) : Prop := ∃ x y : Int32, am_tv E q.2.1 = .int x ∧ am_tv E q.2.2.1 = .int y ∧ am_cnd q.1 x y = q.2.2.2
def am_Yo (E : aE) (xs : aX) : Prop := (∀ q ∈ xs.2.1, am_Yv E q) ∧ ∀ q ∈ xs.2.2, am_Ov E q
/-- the ground: the tables, and what lies below B -/
def am_G (B : Nat) (D : va_G) (dA : Nat → ClassId) (E : aE) (xs : aX) (b : Nat) (U : State) : Prop :=
  (∀ w, am_in w → ∀ a, w.before a U = true) ∧ va_K D vwCl (am_tys dA) U ∧ va_AO RX4 U ∧
  vx_Zq Bundle.tN "UNASSIGNED_STACK" Bundle.steD (am_A B) U U.heap ∧ vx_Zq Bundle.tN "SUPPRESSED_SENTINEL" Bundle.listD (am_A B) U U.heap ∧
  (∃ xr : Nat → Int32, va_X b xs.1.length xr U U.heap ∧ ∀ (j : Nat) (v : Value), xs.1[j]? = some v → am_tv E v = .int (xr j)) ∧ b < B ∧
  (∀ k, k < 1000000 → E.1 k = B + k) ∧ E.1 2000000 = b ∧ (∀ x y, x < 4 → y < 4 → x ≠ y → va_Nc (am_xn x) (am_xn y) U) ∧ am_GS B E U ∧ am_Yo E xs ∧ va_Zq "jdk/internal/util/Preconditions" "SIOOBE_FORMATTER" "Ljava/util/function/BiFunction;" (am_A B) U U.heap
/-- what the abstract cell c says of the cell at a -/
def am_ok (D : va_G) (dA : Nat → ClassId) (E : aE) (a : Nat) (c : aC) (H : Heap) : Prop := match c with
  | (true, tk, l) => tk < 4 ∧ H[a]? = some (arrV (dA tk) l.length (fun j => am_tv E (l.getD j .null)))
  | (false, ci, fs) => ∃ r : vw_C, vwCl[ci]? = some r ∧ r.2.2 = fs.length ∧ t_OB a (D.1 ci) r.2.2 (D.2 ci) H (fun j => am_tv E (fs.getD j .null))
theorem am_ok.kept {D : va_G} {dA : Nat → ClassId} {E : aE} {a : Nat} {c : aC} {H H1 : Heap} (h : am_ok D dA E a c H) (hq : H1[a]? = H[a]?) : am_ok D dA E a c H1 := by
  obtain ⟨b, n, l⟩ := c
  cases b with
  | true => exact ⟨h.1, hq.trans h.2⟩
  | false =>
    obtain ⟨r, h1, h2, h3⟩ := h
    exact ⟨r, h1, h2, h3.kept hq⟩
def am_Rel (B : Nat) (D : va_G) (dA : Nat → ClassId) (E : aE) (h : aH) (H : Heap) : Prop :=
  H.size = B + h.length ∧ ∀ (k : Nat) (c : aC), h[k]? = some (some c) → am_ok D dA E (B + k) c H
theorem am_get_ok {h : aH} {k : Nat} {c : aC} (hg : am_get h k = some c) : k < 1000000 ∧ h[k]? = some (some c) := by
  unfold am_get at hg
  split at hg
  · rename_i h9
    split at hg
    · rename_i h8
      cases hg
      exact ⟨by simpa using h9, h8⟩
    · cases hg
  · cases hg
theorem am_Rel.set {B : Nat} {D : va_G} {dA : Nat → ClassId} {E : aE} {h : aH} {H H1 : Heap} (hR : am_Rel B D dA E h H) {k : Nat} {c c' : aC} (hk : h[k]? = some (some c)) (hz : H1.size = H.size) (ho : ∀ q, q ≠ B + k → H1[q]? = H[q]?) (hc : am_ok D dA E (B + k) c' H1) :
    am_Rel B D dA E (h.set k (some c')) H1 := by
  have hl := (List.getElem?_eq_some_iff.mp hk).1
  refine ⟨by rw [hz, hR.1, List.length_set], fun j d hj => ?_⟩
  by_cases hjk : j = k
  · subst hjk
    rw [List.getElem?_set_self hl] at hj
    cases hj
    exact hc
  · rw [List.getElem?_set_ne (Ne.symm hjk)] at hj
    exact (hR.2 j d hj).kept (ho _ (by omega))
theorem am_Rel.push {B : Nat} {D : va_G} {dA : Nat → ClassId} {E : aE} {h : aH} {H H1 : Heap} (hR : am_Rel B D dA E h H) {c : Option aC} (hz : H1.size = H.size + 1) (ho : ∀ q, q < H.size → H1[q]? = H[q]?) (hc : ∀ c', c = some c' → am_ok D dA E (B + h.length) c' H1) :
    am_Rel B D dA E (h ++ [c]) H1 := by
  refine ⟨by rw [hz, hR.1, List.length_append]; rfl, fun j d hj => ?_⟩
  by_cases hl : j < h.length
  · rw [List.getElem?_append_left hl] at hj
    exact (hR.2 j d hj).kept (ho _ (by rw [hR.1]; omega))
  · rw [List.getElem?_append_right (by omega)] at hj
    have h1 : j - h.length < 1 := (List.getElem?_eq_some_iff.mp hj).1
    have h2 : j = h.length := by omega
    subst h2
    rw [Nat.sub_self] at hj
    exact hc d (Option.some.inj hj)
/-- the method at work -/
def am_Cx (r : aM) (B : Nat) (D : va_G) (dA : Nat → ClassId) (E : aE) (xs : aX) (b : Nat) (p : Program) (l : Launch) (s : State) (m : MethodId) (meth : Method) (c : Code) : Prop :=
  p.tables.exec = Jvm.exec ∧ c.code = r.2.1 ∧ c.maxLocals = r.2.2.1 ∧ meth.sig.returnType = r.2.2.2.1 ∧ meth.locks = false ∧ c.exceptionTable.toList = am_tb r.2.2.2.2.2.1 ∧ s.vm.findClass (am_R r.2.2.2.2.1) = some m.cls ∧ meth.name = r.1.name ∧ l.stackTraces = false ∧ am_okI r ∧ am_G B D dA E xs b s ∧ B ≤ s.heap.size
section AmSound
variable {p : Program} {l : Launch} {e : Env} {R : Room} {s : State} {m : MethodId} {args : Array Value} {below : List Frame} {meth : Method} {c : Code} {H : Heap} {locs : List Loc} {cells slots : Nat} {Q : State → Prop}
variable {r : aM} {B : Nat} {D : va_G} {dA : Nat → ClassId} {E : aE} {xs : aX} {b : Nat} {pc : Nat} {ls : Array Slot} {L : aL} {S : List Value} {h : aH}
theorem am_ii_ok {f : Int32 → Int32 → Int32} {S' : List Value} (h : am_ii f S = some S') : ∃ x y T, S = .int y :: .int x :: T ∧ S' = .int (f x y) :: T := by
  unfold am_ii at h
  split at h
  · cases h; exact ⟨_, _, _, rfl, rfl⟩
  · cases h
theorem am_ll_ok {f : Int64 → Int64 → Int64} {S' : List Value} (h : am_ll f S = some S') : ∃ x y T, S = .long y :: .long x :: T ∧ S' = .long (f x y) :: T := by
  unfold am_ll at h
  split at h
  · cases h; exact ⟨_, _, _, rfl, rfl⟩
  · cases h
theorem am_li_ok {f : Int64 → Int32 → Int64} {S' : List Value} (h : am_li f S = some S') : ∃ x y T, S = .int y :: .long x :: T ∧ S' = .long (f x y) :: T := by
  unfold am_li at h
  split at h
  · cases h; exact ⟨_, _, _, rfl, rfl⟩
  · cases h
set_option maxHeartbeats 1000000 in
theorem am_pure_ok (hx : p.tables.exec = Jvm.exec) (hb : c.code = r.2.1) {i : Instr} {S' : List Value} (h : am_pure i S = some S') (hd : decode r.2.1 pc = .ok (i, am_ilen i))
    (k : W p l e R s m args below meth c H locs cells slots Q (F0 m (pc + am_ilen i) ls (S'.map (am_tv E)))) : W p l e R s m args below meth c H locs cells slots Q (F0 m pc ls (S.map (am_tv E))) := by
  cases i <;> try (cases h; done)
  case iconst n => cases h; exact lv_iconst hx hb hd rfl k
  case bipush n => cases h; exact lv_bipush hx hb hd rfl k
  case sipush n => cases h; exact lv_sipush hx hb hd rfl k
  case iadd => obtain ⟨x, y, T, rfl, rfl⟩ := am_ii_ok h; exact lv_iadd hx hb hd k
  case isub => obtain ⟨x, y, T, rfl, rfl⟩ := am_ii_ok h; exact lv_isub hx hb hd k
  case imul => obtain ⟨x, y, T, rfl, rfl⟩ := am_ii_ok h; exact lv_imul hx hb hd k
  case iand => obtain ⟨x, y, T, rfl, rfl⟩ := am_ii_ok h; exact lv_iand hx hb hd k
  case ior => obtain ⟨x, y, T, rfl, rfl⟩ := am_ii_ok h; exact lv_ior hx hb hd k
  case ishl => obtain ⟨x, y, T, rfl, rfl⟩ := am_ii_ok h; exact lv_ishl hx hb hd k
  case ishr => obtain ⟨x, y, T, rfl, rfl⟩ := am_ii_ok h; exact lv_ishr hx hb hd k
  case land => obtain ⟨x, y, T, rfl, rfl⟩ := am_ll_ok h; exact lv_land hx hb hd k
  case lor => obtain ⟨x, y, T, rfl, rfl⟩ := am_ll_ok h; exact lv_lor hx hb hd k
  case lshl => obtain ⟨x, y, T, rfl, rfl⟩ := am_li_ok h; exact lv_lshl hx hb hd rfl k
  case lshr => obtain ⟨x, y, T, rfl, rfl⟩ := am_li_ok h; exact lv_lshr hx hb hd rfl k
  case ineg =>
    change am_neg S = some S' at h
    unfold am_neg at h
    split at h
    · cases h; exact lv_ineg hx hb hd k
    · cases h
  case i2l =>
    change am_i2l S = some S' at h
    unfold am_i2l at h
    split at h
    · cases h; exact lv_i2l hx hb hd rfl k
    · cases h
  case l2i =>
    change am_l2i S = some S' at h
    unfold am_l2i at h
    split at h
    · cases h; exact lv_l2i hx hb hd rfl k
    · cases h
  case lcmp =>
    change am_lcmp S = some S' at h
    unfold am_lcmp at h
    split at h
    · cases h; exact W.lcmp hx hb hd k
    · cases h
  case dup =>
    change am_dup S = some S' at h
    unfold am_dup at h
    split at h
    · split at h
      · rename_i h9
        cases h
        exact lv_dup hx hb hd (by rw [am_cat]; exact Nat.eq_of_beq_eq_true h9) k
      · cases h
    · cases h
  case pop =>
    change am_pop S = some S' at h
    unfold am_pop at h
    split at h
    · split at h
      · rename_i h9
        cases h
        exact lv_pop hx hb hd (by rw [am_cat]; exact Nat.eq_of_beq_eq_true h9) k
      · cases h
    · cases h
  case dup2 =>
    change am_dup2 S = some S' at h
    unfold am_dup2 at h
    split at h
    · split at h
      · rename_i h9
        cases h
        simp only [Bool.and_eq_true] at h9
        exact lv_dup2_11 hx hb hd (by rw [am_cat]; exact Nat.eq_of_beq_eq_true h9.1) (by rw [am_cat]; exact Nat.eq_of_beq_eq_true h9.2) k
      · cases h
    · cases h
theorem am_go_ok {t : Bool} {off : Int} {q : Nat × List Value} (h : am_go t pc off S = some q) : ∃ g : Nat, (pc : Int) + off = (g : Int) ∧ q = (bif t then g else pc + 3, S) := by
  unfold am_go at h
  split at h
  · rename_i t9 h9
    cases h
    refine ⟨t9, ?_, rfl⟩
    unfold am_tgt at h9
    split at h9
    · rename_i h8; cases h9; exact h8
    · cases h9
  · cases h
theorem am_if1 (hx : p.tables.exec = Jvm.exec) (hb : c.code = r.2.1) {cd : ClassFile.Cond} {off : Int} {x : Int32} {T : List Value} {g : Nat} (hd : decode r.2.1 pc = .ok (.ifCond cd off, 3)) (h2 : (pc : Int) + off = (g : Int))
    (k : W p l e R s m args below meth c H locs cells slots Q (F0 m (bif am_cnd cd x 0 then g else pc + 3) ls T)) : W p l e R s m args below meth c H locs cells slots Q (F0 m pc ls (.int x :: T)) := by
  cases cd
  · exact lv_if_eq hx hb hd h2 (fun h9 => by rw [show am_cnd .eq _ 0 = true from decide_eq_true h9] at k; exact k) (fun h9 => by rw [show am_cnd .eq _ 0 = false from decide_eq_false h9] at k; exact k)
  · exact lv_if_ne hx hb hd h2 (fun h9 => by rw [show am_cnd .ne _ 0 = true from decide_eq_true h9] at k; exact k) (fun h9 => by rw [show am_cnd .ne _ 0 = false from decide_eq_false (fun q => q h9)] at k; exact k)
  · exact lv_if_lt hx hb hd h2 (fun h9 => by rw [show am_cnd .lt _ 0 = true from decide_eq_true h9] at k; exact k) (fun h9 => by rw [show am_cnd .lt _ 0 = false from decide_eq_false h9] at k; exact k)
  · exact lv_if_ge hx hb hd h2 (fun h9 => by rw [show am_cnd .ge _ 0 = true from decide_eq_true h9] at k; exact k) (fun h9 => by rw [show am_cnd .ge _ 0 = false from decide_eq_false h9] at k; exact k)
  · exact lv_if_gt hx hb hd h2 (fun h9 => by rw [show am_cnd .gt _ 0 = true from decide_eq_true h9] at k; exact k) (fun h9 => by rw [show am_cnd .gt _ 0 = false from decide_eq_false h9] at k; exact k)
  · exact lv_if_le hx hb hd h2 (fun h9 => by rw [show am_cnd .le _ 0 = true from decide_eq_true h9] at k; exact k) (fun h9 => by rw [show am_cnd .le _ 0 = false from decide_eq_false h9] at k; exact k)
theorem am_if2 (hx : p.tables.exec = Jvm.exec) (hb : c.code = r.2.1) {cd : ClassFile.Cond} {off : Int} {x y : Int32} {T : List Value} {g : Nat} (hd : decode r.2.1 pc = .ok (.if_icmp cd off, 3)) (h2 : (pc : Int) + off = (g : Int))
    (k : W p l e R s m args below meth c H locs cells slots Q (F0 m (bif am_cnd cd x y then g else pc + 3) ls T)) : W p l e R s m args below meth c H locs cells slots Q (F0 m pc ls (.int y :: .int x :: T)) := by
  cases cd
  · exact lv_icmp_eq hx hb hd h2 (fun h9 => by rw [show am_cnd .eq _ _ = true from decide_eq_true h9] at k; exact k) (fun h9 => by rw [show am_cnd .eq _ _ = false from decide_eq_false h9] at k; exact k)
  · exact lv_icmp_ne hx hb hd h2 (fun h9 => by rw [show am_cnd .ne _ _ = true from decide_eq_true h9] at k; exact k) (fun h9 => by rw [show am_cnd .ne _ _ = false from decide_eq_false (fun q => q h9)] at k; exact k)
  · exact lv_icmp_lt hx hb hd h2 (fun h9 => by rw [show am_cnd .lt _ _ = true from decide_eq_true h9] at k; exact k) (fun h9 => by rw [show am_cnd .lt _ _ = false from decide_eq_false h9] at k; exact k)
  · exact lv_icmp_ge hx hb hd h2 (fun h9 => by rw [show am_cnd .ge _ _ = true from decide_eq_true h9] at k; exact k) (fun h9 => by rw [show am_cnd .ge _ _ = false from decide_eq_false h9] at k; exact k)
  · exact lv_icmp_gt hx hb hd h2 (fun h9 => by rw [show am_cnd .gt _ _ = true from decide_eq_true h9] at k; exact k) (fun h9 => by rw [show am_cnd .gt _ _ = false from decide_eq_false h9] at k; exact k)
  · exact lv_icmp_le hx hb hd h2 (fun h9 => by rw [show am_cnd .le _ _ = true from decide_eq_true h9] at k; exact k) (fun h9 => by rw [show am_cnd .le _ _ = false from decide_eq_false h9] at k; exact k)
theorem am_fo_mem : ∀ {O : List (ClassFile.Cond × Value × Value × Bool)} {c : ClassFile.Cond} {a b : Value} {t : Bool}, am_fo O c a b = some t → (c, a, b, t) ∈ O
  | [], _, _, _, _, h => by cases h
  | q :: u, c, a, b, t, h => by
    unfold am_fo at h
    split at h
    · rename_i h9
      cases h
      simp only [Bool.and_eq_true, decide_eq_true_eq] at h9
      obtain ⟨⟨h1, h2⟩, h3⟩ := h9
      subst h1; subst h2; subst h3
      exact List.mem_cons_self
    · exact List.mem_cons_of_mem _ (am_fo_mem h)
theorem am_fy_mem : ∀ {Y : List (Instr × Value × Value × Value)} {i : Instr} {a b v : Value}, am_fy Y i a b = some v → (i, a, b, v) ∈ Y
  | [], _, _, _, _, h => by cases h
  | q :: u, i, a, b, t, h => by
    unfold am_fy at h
    split at h
    · rename_i h9
      cases h
      simp only [Bool.and_eq_true, decide_eq_true_eq] at h9
      obtain ⟨⟨h1, h2⟩, h3⟩ := h9
      subst h1; subst h2; subst h3
      exact List.mem_cons_self
    · exact List.mem_cons_of_mem _ (am_fy_mem h)
set_option maxHeartbeats 1000000 in
theorem am_obr_ok (hY : am_Yo E xs) (hx : p.tables.exec = Jvm.exec) (hb : c.code = r.2.1) {i : Instr} {len : Nat} {q : Nat × List Value} (h : am_obr xs.2.2 i pc S = some q) (hd : decode r.2.1 pc = .ok (i, len)) (hlen : len = am_ilen i ∨ ∃ d lo hi offs, i = .tableswitch d lo hi offs)
    (k : W p l e R s m args below meth c H locs cells slots Q (F0 m q.1 ls (q.2.map (am_tv E)))) : W p l e R s m args below meth c H locs cells slots Q (F0 m pc ls (S.map (am_tv E))) := by
  cases i <;> try (cases h; done)
  case ifCond cd off =>
    have hlen : len = 3 := by rcases hlen with h9 | ⟨_, _, _, _, h9⟩; exact h9; cases h9
    subst hlen
    change am_ob1 xs.2.2 cd off pc S = some q at h
    unfold am_ob1 at h
    split at h
    · split at h
      · rename_i t ht
        obtain ⟨g, h2, rfl⟩ := am_go_ok h
        obtain ⟨x, y, v1, v2, v3⟩ := hY.2 _ (am_fo_mem ht)
        dsimp only at v1 v2 v3
        cases v2
        rw [List.map_cons, v1]
        refine am_if1 hx hb hd h2 ?_
        rw [v3]; exact k
      · cases h
    · cases h
  case if_icmp cd off =>
    have hlen : len = 3 := by rcases hlen with h9 | ⟨_, _, _, _, h9⟩; exact h9; cases h9
    subst hlen
    change am_ob2 xs.2.2 cd off pc S = some q at h
    unfold am_ob2 at h
    split at h
    · split at h
      · rename_i t ht
        obtain ⟨g, h2, rfl⟩ := am_go_ok h
        obtain ⟨x, y, v1, v2, v3⟩ := hY.2 _ (am_fo_mem ht)
        dsimp only at v1 v2 v3
        rw [List.map_cons, List.map_cons, v1, v2]
        refine am_if2 hx hb hd h2 ?_
        rw [v3]; exact k
      · cases h
    · cases h
  case tableswitch d lo hi offs =>
    change am_osw xs.2.2 d lo hi pc S = some q at h
    unfold am_osw at h
    split at h
    · split at h
      · rename_i hb9
        simp only [Bool.and_eq_true, decide_eq_true_eq] at hb9
        split at h
        · rename_i ht
          obtain ⟨g, h2, rfl⟩ := am_go_ok h
          obtain ⟨x, y, v1, v2, v3⟩ := hY.2 _ (am_fo_mem ht)
          dsimp only at v1 v2 v3
          cases v2
          have h8 : x < Int32.ofInt lo := of_decide_eq_true v3
          rw [Int32.lt_iff_toInt_lt, hb9.1] at h8
          rw [List.map_cons, v1]
          exact lv_tableOut hx hb hd (Or.inl h8) h2 k
        · split at h
          · rename_i ht
            obtain ⟨g, h2, rfl⟩ := am_go_ok h
            obtain ⟨x, y, v1, v2, v3⟩ := hY.2 _ (am_fo_mem ht)
            dsimp only at v1 v2 v3
            cases v2
            have h8 : Int32.ofInt hi < x := of_decide_eq_true v3
            rw [Int32.lt_iff_toInt_lt, hb9.2] at h8
            rw [List.map_cons, v1]
            exact lv_tableOut hx hb hd (Or.inr h8) h2 k
          · cases h
      · cases h
    · cases h
theorem am_tv_id (v : Value) : am_tv (fun k => k, fun _ => 0, fun _ => 0) (am_tv E v) = am_tv E v := by cases v <;> rfl
theorem am_map_id (T : List Value) : (T.map (am_tv E)).map (am_tv (fun k => k, fun _ => 0, fun _ => 0)) = T.map (am_tv E) := by
  rw [List.map_map]
  apply List.map_congr_left
  intro v _
  exact am_tv_id v
theorem am_sym_ok (hY : am_Yo E xs) (hx : p.tables.exec = Jvm.exec) (hb : c.code = r.2.1) {i : Instr} {S' : List Value} (h : am_sym xs.2.1 i S = some S') (hd : decode r.2.1 pc = .ok (i, am_ilen i))
    (k : W p l e R s m args below meth c H locs cells slots Q (F0 m (pc + am_ilen i) ls (S'.map (am_tv E)))) : W p l e R s m args below meth c H locs cells slots Q (F0 m pc ls (S.map (am_tv E))) := by
  have key : am_pure i (S.map (am_tv E)) = some (S'.map (am_tv E)) := by
    unfold am_sym at h
    split at h
    · rename_i h9
      cases h
      unfold am_sym2 at h9
      split at h9
      · split at h9
        · cases h9
        · rename_i hn
          split at h9
          · rename_i ht
            cases h9
            rcases hY.1 _ (am_fy_mem ht) with ⟨h1, -⟩ | ⟨-, h2⟩
            · exact absurd h1 (of_decide_eq_false hn)
            · exact h2 _
          · cases h9
      · cases h9
    · unfold am_sym1 at h
      split at h
      · split at h
        · rename_i ht
          cases h
          rcases hY.1 _ (am_fy_mem ht) with ⟨-, h2⟩ | ⟨h1, -⟩
          · exact h2 _
          · exact absurd rfl h1
        · cases h
      · cases h
  have k' : W p l e R s m args below meth c H locs cells slots Q (F0 m (pc + am_ilen i) ls ((S'.map (am_tv E)).map (am_tv (fun k => k, fun _ => 0, fun _ => 0)))) := by rw [am_map_id]; exact k
  have h9 := am_pure_ok hx hb key hd k'
  rw [am_map_id] at h9
  exact h9
set_option maxHeartbeats 1000000 in
theorem am_br_ok (hx : p.tables.exec = Jvm.exec) (hb : c.code = r.2.1) {i : Instr} {len : Nat} {q : Nat × List Value} (h : am_br i pc S = some q) (hd : decode r.2.1 pc = .ok (i, len)) (hlen : len = am_ilen i ∨ ∃ d lo hi offs, i = .tableswitch d lo hi offs)
    (k : W p l e R s m args below meth c H locs cells slots Q (F0 m q.1 ls (q.2.map (am_tv E)))) : W p l e R s m args below meth c H locs cells slots Q (F0 m pc ls (S.map (am_tv E))) := by
  cases i <;> try (cases h; done)
  case goto off =>
    have hlen : len = 3 := by rcases hlen with h9 | ⟨_, _, _, _, h9⟩; exact h9; cases h9
    subst hlen
    obtain ⟨g, h2, rfl⟩ := am_go_ok h
    exact lv_goto hx hb hd h2 k
  case ifCond cd off =>
    have hlen : len = 3 := by rcases hlen with h9 | ⟨_, _, _, _, h9⟩; exact h9; cases h9
    subst hlen
    change am_b1 cd off pc S = some q at h
    unfold am_b1 at h
    split at h
    · obtain ⟨g, h2, rfl⟩ := am_go_ok h
      cases cd
      · exact lv_if_eq hx hb hd h2 (fun h9 => by rw [show am_cnd .eq _ 0 = true from decide_eq_true h9] at k; exact k) (fun h9 => by rw [show am_cnd .eq _ 0 = false from decide_eq_false h9] at k; exact k)
      · exact lv_if_ne hx hb hd h2 (fun h9 => by rw [show am_cnd .ne _ 0 = true from decide_eq_true h9] at k; exact k) (fun h9 => by rw [show am_cnd .ne _ 0 = false from decide_eq_false (fun q => q h9)] at k; exact k)
      · exact lv_if_lt hx hb hd h2 (fun h9 => by rw [show am_cnd .lt _ 0 = true from decide_eq_true h9] at k; exact k) (fun h9 => by rw [show am_cnd .lt _ 0 = false from decide_eq_false h9] at k; exact k)
      · exact lv_if_ge hx hb hd h2 (fun h9 => by rw [show am_cnd .ge _ 0 = true from decide_eq_true h9] at k; exact k) (fun h9 => by rw [show am_cnd .ge _ 0 = false from decide_eq_false h9] at k; exact k)
      · exact lv_if_gt hx hb hd h2 (fun h9 => by rw [show am_cnd .gt _ 0 = true from decide_eq_true h9] at k; exact k) (fun h9 => by rw [show am_cnd .gt _ 0 = false from decide_eq_false h9] at k; exact k)
      · exact lv_if_le hx hb hd h2 (fun h9 => by rw [show am_cnd .le _ 0 = true from decide_eq_true h9] at k; exact k) (fun h9 => by rw [show am_cnd .le _ 0 = false from decide_eq_false h9] at k; exact k)
    · cases h
  case if_icmp cd off =>
    have hlen : len = 3 := by rcases hlen with h9 | ⟨_, _, _, _, h9⟩; exact h9; cases h9
    subst hlen
    change am_b2 cd off pc S = some q at h
    unfold am_b2 at h
    split at h
    · obtain ⟨g, h2, rfl⟩ := am_go_ok h
      cases cd
      · exact lv_icmp_eq hx hb hd h2 (fun h9 => by rw [show am_cnd .eq _ _ = true from decide_eq_true h9] at k; exact k) (fun h9 => by rw [show am_cnd .eq _ _ = false from decide_eq_false h9] at k; exact k)
      · exact lv_icmp_ne hx hb hd h2 (fun h9 => by rw [show am_cnd .ne _ _ = true from decide_eq_true h9] at k; exact k) (fun h9 => by rw [show am_cnd .ne _ _ = false from decide_eq_false (fun q => q h9)] at k; exact k)
      · exact lv_icmp_lt hx hb hd h2 (fun h9 => by rw [show am_cnd .lt _ _ = true from decide_eq_true h9] at k; exact k) (fun h9 => by rw [show am_cnd .lt _ _ = false from decide_eq_false h9] at k; exact k)
      · exact lv_icmp_ge hx hb hd h2 (fun h9 => by rw [show am_cnd .ge _ _ = true from decide_eq_true h9] at k; exact k) (fun h9 => by rw [show am_cnd .ge _ _ = false from decide_eq_false h9] at k; exact k)
      · exact lv_icmp_gt hx hb hd h2 (fun h9 => by rw [show am_cnd .gt _ _ = true from decide_eq_true h9] at k; exact k) (fun h9 => by rw [show am_cnd .gt _ _ = false from decide_eq_false h9] at k; exact k)
      · exact lv_icmp_le hx hb hd h2 (fun h9 => by rw [show am_cnd .le _ _ = true from decide_eq_true h9] at k; exact k) (fun h9 => by rw [show am_cnd .le _ _ = false from decide_eq_false h9] at k; exact k)
    · cases h
  case tableswitch d lo hi offs =>
    change am_sw d lo hi offs pc S = some q at h
    unfold am_sw at h
    split at h
    · split at h
      · rename_i h9
        obtain ⟨g, h2, rfl⟩ := am_go_ok h
        exact lv_tableOut hx hb hd (of_decide_eq_true h9) h2 k
      · rename_i h9
        have h8 := of_decide_eq_false h9
        split at h
        · rename_i o ho
          obtain ⟨g, h2, rfl⟩ := am_go_ok h
          exact lv_tableIn hx hb hd (fun q => h8 (Or.inl q)) (fun q => h8 (Or.inr q)) ho h2 k
        · cases h
    · cases h
theorem am_chk_ok {t : Value → Bool} {o : Option Value} {v : Value} (h : am_chk t o = some v) : o = some v ∧ t v = true := by
  unfold am_chk at h
  split at h
  · split at h
    · rename_i h9; cases h; exact ⟨rfl, h9⟩
    · cases h
  · cases h
theorem am_ld_ok (hx : p.tables.exec = Jvm.exec) (hb : c.code = r.2.1) {nL : Nat} (hl : lv_has ls nL (am_lm E L)) {i : Instr} {v : Value} (h : am_ld i L = some v) (hd : decode r.2.1 pc = .ok (i, am_ilen i))
    (k : W p l e R s m args below meth c H locs cells slots Q (F0 m (pc + am_ilen i) ls (am_tv E v :: S.map (am_tv E)))) : W p l e R s m args below meth c H locs cells slots Q (F0 m pc ls (S.map (am_tv E))) := by
  cases i <;> try (cases h; done)
  case iload j =>
    obtain ⟨h1, h2⟩ := am_chk_ok h
    obtain ⟨x, hv⟩ := am_tvI (E := E) h2
    rw [hv] at k
    exact lv_iload hx hb hd (by rw [← hv]; exact am_lm_at hl h1) k
  case iload_n j =>
    obtain ⟨h1, h2⟩ := am_chk_ok h
    obtain ⟨x, hv⟩ := am_tvI (E := E) h2
    rw [hv] at k
    exact lv_iload_n hx hb hd rfl (by rw [← hv]; exact am_lm_at hl h1) k
  case aload j =>
    obtain ⟨h1, h2⟩ := am_chk_ok h
    obtain ⟨x, rfl⟩ := am_tvR h2
    exact lv_aload hx hb hd (am_lm_at hl h1) k
  case aload_n j =>
    obtain ⟨h1, h2⟩ := am_chk_ok h
    obtain ⟨x, rfl⟩ := am_tvR h2
    exact lv_aload_n hx hb hd rfl (am_lm_at hl h1) k
  case lload_n j =>
    obtain ⟨h1, h2⟩ := am_chk_ok h
    obtain ⟨x, hv⟩ := am_tvL (E := E) h2
    rw [hv] at k
    exact lv_lload_n hx hb hd rfl (by rw [← hv]; exact am_lm_at hl h1) k
theorem am_hd_ok {t : Value → Bool} {j : Nat} {q : Nat × Value × List Value} (h : am_hd t j S = some q) : S = q.2.1 :: q.2.2 ∧ q.1 = j ∧ t q.2.1 = true := by
  unfold am_hd at h
  split at h
  · split at h
    · rename_i h9; cases h; exact ⟨rfl, rfl, h9⟩
    · cases h
  · cases h
theorem am_sto_ok (hx : p.tables.exec = Jvm.exec) (hb : c.code = r.2.1) {nL : Nat} (hl : lv_has ls nL (am_lm E L)) {i : Instr} {q : Nat × Value × List Value} (h : am_sto i L S = some q) (hn : q.1 < nL) (hd : decode r.2.1 pc = .ok (i, am_ilen i))
    (k : ∀ ls' : Array Slot, lv_has ls' nL (am_lm E (am_put L q.1 q.2.1)) → W p l e R s m args below meth c H locs cells slots Q (F0 m (pc + am_ilen i) ls' (q.2.2.map (am_tv E)))) : W p l e R s m args below meth c H locs cells slots Q (F0 m pc ls (S.map (am_tv E))) := by
  have hp := am_put_lm E L q.1 q.2.1
  cases i <;> try (cases h; done)
  case istore j =>
    obtain ⟨h1, h2, h3⟩ := am_hd_ok h
    obtain ⟨x, hv⟩ := am_tvI (E := E) h3
    rw [h1, List.map_cons, hv]
    rw [hv] at hp
    subst h2
    exact lv_istore hx hb hd hl hn hp k
  case istore_n j =>
    obtain ⟨h1, h2, h3⟩ := am_hd_ok h
    obtain ⟨x, hv⟩ := am_tvI (E := E) h3
    rw [h1, List.map_cons, hv]
    rw [hv] at hp
    exact lv_istore_n hx hb hd h2.symm hl hn hp k
  case astore j =>
    obtain ⟨h1, h2, h3⟩ := am_hd_ok h
    obtain ⟨x, hv⟩ := am_tvR h3
    rw [h1, List.map_cons, hv]
    rw [hv] at hp
    subst h2
    exact lv_astore hx hb hd hl hn hp (by rw [← hv]; exact k)
  case astore_n j =>
    obtain ⟨h1, h2, h3⟩ := am_hd_ok h
    obtain ⟨x, hv⟩ := am_tvR h3
    rw [h1, List.map_cons, hv]
    rw [hv] at hp
    exact lv_astore_n hx hb hd h2.symm hl hn hp (by rw [← hv]; exact k)
  case iinc j n =>
    change am_inc j n S (am_look L j) = some q at h
    generalize h9 : am_look L j = o at h
    unfold am_inc at h
    split at h
    · rename_i x
      cases h
      obtain ⟨i9, hi9⟩ := List.getElem?_of_mem (List.mem_map.mpr ⟨_, am_look_mem h9, rfl⟩ : (j, am_tv E (.int x)) ∈ am_lm E L)
      exact lv_iinc hx hb hd hl hi9 rfl hn hp k
    · cases h
end AmSound
end
section
/-! SOUNDNESS: fields, arrays, makings, constants -/
section AmHeap
variable {p : Program} {l : Launch} {e : Env} {R : Room} {s : State} {m : MethodId} {args : Array Value} {below : List Frame} {meth : Method} {c : Code} {H : Heap} {locs : List Loc} {cells slots : Nat} {Q : State → Prop}
variable {r : aM} {B : Nat} {D : va_G} {dA : Nat → ClassId} {E : aE} {xs : aX} {b : Nat} {pc : Nat} {ls : Array Slot} {L : aL} {S : List Value} {h : aH}
theorem am_decl : ∀ (ci : Nat) (q : vw_C), vwCl[ci]? = some q → ∀ j, j < q.2.2 → (q.2.1 j).1 = am_R ci := by
  intro ci q h
  match ci, h with
  | 0, h => cases h; exact (by decide +kernel : ∀ j, j < 11 → (TX0 j).1 = RX0)
  | 1, h => cases h; exact (by decide +kernel : ∀ j, j < 8 → (TX1 j).1 = RX1)
  | 2, h => cases h; exact (by decide +kernel : ∀ j, j < 8 → (TX2 j).1 = RX2)
  | 3, h => cases h; exact (by decide +kernel : ∀ j, j < 9 → (TX3 j).1 = RX3)
  | 4, h => cases h; exact (by decide +kernel : ∀ j, j < 6 → (TX4 j).1 = RX4)
  | 5, h => cases h; exact (by decide +kernel : ∀ j, j < 4 → (TX5 j).1 = RX5)
  | 6, h => cases h; exact (by decide +kernel : ∀ j, j < 9 → (TX6 j).1 = RX6)
  | 7, h => cases h; exact (by decide +kernel : ∀ j, j < 4 → (TX7 j).1 = RX7)
  | 8, h => cases h; exact (by decide +kernel : ∀ j, j < 5 → (TX8 j).1 = RX8)
  | 9, h => cases h; exact (by decide +kernel : ∀ j, j < 4 → (TX9 j).1 = RX9)
  | 10, h => cases h; exact (by decide +kernel : ∀ j, j < 12 → (TX10 j).1 = RX10)
  | 11, h => cases h; exact (by decide +kernel : ∀ j, j < 65 → (TX11 j).1 = RX11)
  | k + 12, h => simp [vwCl] at h
theorem am_putFinN {cc : ByteArray} (hexec : p.tables.exec = Jvm.exec) (hb : c.code = cc) {own ref name desc host : String} {index : Nat} (hown : s.vm.findClass own = some m.cls) (hlink : (Cond.fieldLinkNest own index ref name desc host).before args s = true)
    {cf i : Nat} {k : Class} {f : Field} (hi : s.fieldFound? ref name desc = some (cf, k, i, f)) (hst : f.isStatic = false) (hcf : m.cls = cf) (hin : meth.name = "<init>") {a : Addr} {cell : Cell} {v : Value} (hS : narrow f.type v = v ∧ s.fitsSlot cell.cls .none f.slot v = true)
    (hcell : H[a]? = some cell) (hvm : cell.vm = .none) (hlt : f.slot < cell.slots.size)
    {g : JFrame} (hg : g.method = m) {rest : List Value} (hstack : g.stack = v :: .ref a :: rest) (hdg : decode cc g.pc = .ok (.putfield index, 3))
    (kk : ∀ H' : Heap, H'[a]? = some (cell.setSlot f.slot v) → H'.size = H.size → (∀ q, q ≠ a → H'[q]? = H[q]?) → W p l e R s m args below meth c H' (locs ++ [⟨a, f.slot⟩]) cells slots Q { g with pc := g.pc + 3, stack := rest }) : W p l e R s m args below meth c H locs cells slots Q g := by
  have ha : a < H.size := (Array.getElem?_eq_some_iff.mp hcell).1
  refine va_Wputf hexec hb hown hlink hi hst (Or.inr ⟨hcf, hin⟩) hcell (by rw [hvm]; exact fun h => by cases h) hlt hS.1 (by rw [hvm]; exact hS.2) hg hstack hdg ?_
  refine kk _ ?_ ?_ ?_
  · simp [Array.getElem?_setIfInBounds, ha]
  · simp
  · intro q hq
    simp [Array.getElem?_setIfInBounds, Ne.symm hq]
theorem am_cls_w (G : am_G B D dA E xs b s) {ci : Nat} {q : vw_C} (hc : vwCl[ci]? = some q) : ∀ w ∈ u_ws q.1 q.2.1 q.2.2, w.before args s = true := by
  intro w hw
  obtain ⟨k, hk, rfl⟩ := List.mem_map.mp hw
  exact G.1 _ ((am_cl_ok ci q hc).1 k (List.mem_range.mp hk)) _
theorem am_nf_eq {ci : Nat} {q : vw_C} (hc : vwCl[ci]? = some q) : am_nf ci = q.2.2 := by unfold am_nf; rw [hc]
theorem am_getD {fs : List Value} {k : Nat} {v : Value} (h : fs[k]? = some v) : fs.getD k .null = v := by rw [List.getD_eq_getElem?_getD, h]; rfl
theorem am_getf_ok (Cx : am_Cx r B D dA E xs b p l s m meth c) (hR : am_Rel B D dA E h H) {idx : Nat} {S' : List Value} (hf : am_getf r.2.2.2.2.1 idx S h = some S') (hd : decode r.2.1 pc = .ok (.getfield idx, 3))
    (k : W p l e R s m args below meth c H locs cells slots Q (F0 m (pc + 3) ls (S'.map (am_tv E)))) : W p l e R s m args below meth c H locs cells slots Q (F0 m pc ls (S.map (am_tv E))) := by
  obtain ⟨hx, hb, hml, hr, hlk, htb, hown, hnm, hst, hI, G, hB⟩ := Cx
  unfold am_getf at hf
  split at hf
  · rename_i a T
    split at hf
    · rename_i ci j hlook
      split at hf
      · rename_i cj fs hget
        split at hf
        · rename_i hbeq
          split at hf
          · rename_i v hv
            cases hf
            have hcj : ci = cj := Nat.eq_of_beq_eq_true hbeq
            subst hcj
            obtain ⟨hlt, hcell⟩ := am_get_ok hget
            obtain ⟨q, hq, hjn, hlink⟩ := am_fd_ok _ (am_look2_mem hlook)
            dsimp only at hq hjn hlink
            obtain ⟨q', hq', hlen, cell, g1, g2, g3, g4⟩ := hR.2 a _ hcell
            cases Option.some.inj (hq.symm.trans hq')
            obtain ⟨hS, hfc, kC, hkC, hkind⟩ := G.2.1.1 ci q hq
            obtain ⟨cf, kf, fi, f, hi, hsl⟩ := hS j hjn
            have hfst := (u_facts hfc hkC (u_lays (am_cls_w (args := args) G hq) (fun w h => h) hjn) hi).1
            have hslot : cell.slots[f.slot]? = some (am_tv E v) := by
              rw [hsl, g4 j hjn]
              show some (am_tv E (fs.getD j .null)) = _
              rw [am_getD hv]
            have ha : am_tv E (.ref a) = .ref (B + a) := by show Value.ref (E.1 a) = _; rw [G.2.2.2.2.2.2.2.1 a hlt]
            rw [List.map_cons, ha]
            rcases hlink with hl1 | ⟨host, hl1⟩
            · exact W.getf hx hb hown (G.1 _ hl1 _) hi hfst g1 (by rw [g3]; exact fun z => by cases z) hslot rfl rfl hd k
            · exact va_Wgetf hx hb hown (G.1 _ hl1 _) hi hfst g1 (by rw [g3]; exact fun z => by cases z) hslot rfl rfl hd k
          · cases hf
        · cases hf
      · cases hf
    · cases hf
  · cases hf
theorem am_fit_ok {ty : FieldType} {v : Value} (hf : am_fit ty v = true) : narrow ty (am_tv E v) = am_tv E v ∧ fits ty (am_tv E v) = true := by
  unfold am_fit at hf
  split at hf
  · obtain ⟨x, hv⟩ := am_tvI (E := E) hf
    rw [hv]; exact ⟨rfl, rfl⟩
  · simp only [Bool.or_eq_true, decide_eq_true_eq] at hf
    rcases hf with rfl | rfl
    · exact ⟨rfl, rfl⟩
    · exact ⟨rfl, rfl⟩
  · simp only [Bool.or_eq_true, decide_eq_true_eq] at hf
    rcases hf with hf | rfl
    · obtain ⟨k, rfl⟩ := am_tvR hf; exact ⟨rfl, rfl⟩
    · exact ⟨rfl, rfl⟩
  · simp only [Bool.or_eq_true, decide_eq_true_eq] at hf
    rcases hf with hf | rfl
    · obtain ⟨k, rfl⟩ := am_tvR hf; exact ⟨rfl, rfl⟩
    · exact ⟨rfl, rfl⟩
  · cases hf
theorem am_S_put {H1 : Heap} {a i : Nat} (hS : va_S (am_A B) s.heap H locs) (hz : H1.size = H.size) (ho : ∀ q, q ≠ B + a → H1[q]? = H[q]?) : va_S (am_A B) s.heap H1 (locs ++ [⟨B + a, i⟩]) := by
  refine ⟨by rw [hz]; exact hS.1, fun q h1 h2 => ?_, fun z hz => ?_⟩
  · rw [ho q (fun h3 => h2 (by rw [h3]; exact Nat.le_add_right _ _))]
    exact hS.2.1 q h1 h2
  · rcases List.mem_append.mp hz with h9 | h9
    · exact hS.2.2 z h9
    · cases List.mem_singleton.mp h9
      exact Nat.le_add_right _ _
theorem am_S_push {H1 : Heap} (hS : va_S (am_A B) s.heap H locs) (hz : H1.size = H.size + 1) (ho : ∀ q, q < H.size → H1[q]? = H[q]?) : va_S (am_A B) s.heap H1 locs :=
  ⟨by rw [hz]; exact Nat.le_trans hS.1 (Nat.le_succ _), fun q h1 h2 => (ho q (Nat.lt_of_lt_of_le h1 hS.1)).trans (hS.2.1 q h1 h2), hS.2.2⟩
theorem am_setV {fs : List Value} {j : Nat} (hj : j < fs.length) (v : Value) (i : Nat) : updV (fun j => am_tv E (fs.getD j .null)) j (am_tv E v) i = am_tv E ((fs.set j v).getD i .null) := by
  unfold updV
  by_cases h9 : i = j
  · subst h9
    simp [List.getD_eq_getElem?_getD, hj]
  · rw [if_neg h9]
    simp [List.getD_eq_getElem?_getD, List.getElem?_set, Ne.symm h9]
theorem am_putf_ok (Cx : am_Cx r B D dA E xs b p l s m meth c) (hR : am_Rel B D dA E h H) (hS : va_S (am_A B) s.heap H locs) {idx : Nat} {q9 : List Value × aH} (hf : am_putf r.2.2.2.2.1 (decide (r.1.name = "<init>")) idx S h = some q9) (hd : decode r.2.1 pc = .ok (.putfield idx, 3))
    (k : ∀ (H1 : Heap) (locs1 : List Loc), am_Rel B D dA E q9.2 H1 → va_S (am_A B) s.heap H1 locs1 → W p l e R s m args below meth c H1 locs1 cells slots Q (F0 m (pc + 3) ls (q9.1.map (am_tv E)))) : W p l e R s m args below meth c H locs cells slots Q (F0 m pc ls (S.map (am_tv E))) := by
  obtain ⟨hx, hb, hml, hr, hlk, htb, hown, hnm, hst, hI, G, hB⟩ := Cx
  unfold am_putf at hf
  split at hf
  · rename_i v a T
    split at hf
    · rename_i ci j hlook
      split at hf
      · rename_i cj fs hget
        split at hf
        · rename_i hbeq
          cases hf
          simp only [Bool.and_eq_true] at hbeq
          obtain ⟨⟨⟨hbeq, hln⟩, hfit⟩, hfin⟩ := hbeq
          have hcj : ci = cj := Nat.eq_of_beq_eq_true hbeq
          subst hcj
          obtain ⟨hlt, hcell⟩ := am_get_ok hget
          obtain ⟨q, hq, hjn, hlink⟩ := am_fd_ok _ (am_look2_mem hlook)
          dsimp only at hq hjn hlink
          have hok := am_cl_ok ci q hq
          obtain ⟨q', hq', hlen, cell, g1, g2, g3, g4⟩ := hR.2 a _ hcell
          cases Option.some.inj (hq.symm.trans hq')
          have hap := va_apart (own := am_R r.2.2.2.2.1) (am_cls_w (args := args) G hq) (fun w h => h) (am_ty ci) hok.2.1 hok.2.2.1 G.2.1 hq
          obtain ⟨hSl, hfc, kC, hkC, hkind⟩ := G.2.1.1 ci q hq
          obtain ⟨cf, kf, fi, f, hi, hsl⟩ := hSl j hjn
          have hlay := G.1 _ (hok.1 j hjn) args
          have hfst := (u_facts hfc hkC (u_lays (am_cls_w (args := args) G hq) (fun w h => h) hjn) hi).1
          have ha : am_tv E (.ref a) = .ref (B + a) := by show Value.ref (E.1 a) = _; rw [G.2.2.2.2.2.2.2.1 a hlt]
          rw [List.map_cons, List.map_cons, ha]
          obtain ⟨hn1, hf1⟩ := am_fit_ok (E := E) hfit
          have hjl : j < fs.length := by rw [← hlen]; exact hjn
          have fin : ∀ (H1 : Heap), H1[B + a]? = some (cell.setSlot f.slot (am_tv E v)) → H1.size = H.size → (∀ z, z ≠ B + a → H1[z]? = H[z]?) → W p l e R s m args below meth c H1 (locs ++ [⟨B + a, f.slot⟩]) cells slots Q (F0 m (pc + 3) ls (T.map (am_tv E))) := by
            intro H1 e1 e2 e3
            refine k H1 _ (hR.set hcell e2 e3 ⟨q, hq, by rw [List.length_set]; exact hlen, ?_⟩) (am_S_put hS e2 e3)
            rw [hsl] at e1
            exact t_OB.to (V := updV (fun j => am_tv E (fs.getD j .null)) j (am_tv E v)) ⟨_, e1, g2, g3, t_set g4 hap hjn (am_tv E v)⟩ (fun i _ => am_setV hjl v i)
          unfold u_lay at hlay
          by_cases hff : (q.2.1 j).2.2.2 = true
          · rw [if_pos hff] at hlay
            have hfi : am_fin ci j = true := by unfold am_fin; rw [hq]; exact hff
            rw [hfi] at hfin
            simp only [Bool.not_true, Bool.false_or, Bool.and_eq_true, decide_eq_true_eq] at hfin
            obtain ⟨hini, hoc⟩ := hfin
            have hoc : r.2.2.2.2.1 = ci := Nat.eq_of_beq_eq_true hoc
            have hdecl : (q.2.1 j).1 = am_R r.2.2.2.2.1 := by
              rw [hoc]
              exact am_decl ci q hq j hjn
            have hcf : m.cls = cf := by
              obtain ⟨_, _, c', _, _, _, -, -, hf', -, -, -, hown2, -⟩ := Cond.laysFinal_spec hlay
              have e1 : c' = cf := by have := hi.symm.trans hf'; simp at this; exact this.1.symm
              rw [hdecl] at hown2
              rw [← e1]; exact Option.some.inj (hown.symm.trans hown2)
            have h6 := u_fits hfc hkC hkind (Or.inr hlay) hi (hok.2.1 j hjn) hn1 hf1
            rcases hlink with hl1 | ⟨host, hl1⟩
            · exact W.putFinK hx hb hown (G.1 _ hl1 _) hi hfst hcf (hnm.trans hini) (by rw [g2]; exact h6) g1 g3 (by rw [hsl]; exact k2_hasslot (g4 j hjn)) rfl rfl hd fin
            · exact am_putFinN hx hb hown (G.1 _ hl1 _) hi hfst hcf (hnm.trans hini) (by rw [g2]; exact h6) g1 g3 (by rw [hsl]; exact k2_hasslot (g4 j hjn)) rfl rfl hd fin
          · rw [if_neg hff] at hlay
            have h6 := u_store hfc hkC hkind hlay hi (hok.2.1 j hjn) hn1 hf1
            rcases hlink with hl1 | ⟨host, hl1⟩
            · exact W.putK hx hb (f := f) ⟨hown, G.1 _ hl1 _, ⟨_, _, _, hi⟩, hfst⟩ (by rw [g2]; exact h6) g1 g3 (by rw [hsl]; exact k2_hasslot (g4 j hjn)) rfl rfl hd fin
            · exact va_WputK hx hb (f := f) hown (G.1 _ hl1 _) hi hfst (by rw [g2]; exact h6) g1 g3 (by rw [hsl]; exact k2_hasslot (g4 j hjn)) rfl rfl hd fin
        · cases hf
      · cases hf
    · cases hf
  · cases hf
end AmHeap
end
section
/-! SOUNDNESS: arrays and makings -/
section AmArr
variable {p : Program} {l : Launch} {e : Env} {R : Room} {s : State} {m : MethodId} {args : Array Value} {below : List Frame} {meth : Method} {c : Code} {H : Heap} {locs : List Loc} {cells slots : Nat} {Q : State → Prop}
variable {r : aM} {B : Nat} {D : va_G} {dA : Nat → ClassId} {E : aE} {xs : aX} {b : Nat} {pc : Nat} {ls : Array Slot} {L : aL} {S : List Value} {h : aH}
theorem am_ix_ok {i : Int32} {t : List Value} {v : Value} (hi : am_ix i t = some v) : ¬ i < 0 ∧ i.toNatClampNeg < t.length ∧ t[i.toNatClampNeg]? = some v := by
  unfold am_ix at hi
  split at hi
  · cases hi
  · rename_i h9
    exact ⟨of_decide_eq_false h9, (List.getElem?_eq_some_iff.mp hi).1, hi⟩
theorem am_arr (G : am_G B D dA E xs b s) {tk : Nat} (ht : tk < 4) (n : Nat) (f : Nat → Value) : s.isArrayOf (arrV (dA tk) n f) (am_aty tk) := by
  rcases (show tk = 0 ∨ tk = 1 ∨ tk = 2 ∨ tk = 3 by omega) with rfl | rfl | rfl | rfl
  · exact (G.2.1.2 0 _ rfl).1 n f
  · exact (G.2.1.2 1 _ rfl).1 n f
  · exact (G.2.1.2 2 _ rfl).1 n f
  · exact (G.2.1.2 3 _ rfl).1 n f
def am_aldI : Nat → Instr := fun t => match t with
  | 0 => .iaload
  | 1 => .baload
  | 2 => .laload
  | _ => .aaload
def am_astI : Nat → Instr := fun t => match t with
  | 0 => .iastore
  | 1 => .bastore
  | 2 => .lastore
  | _ => .aastore
theorem am_ref (G : am_G B D dA E xs b s) {a : Nat} (hlt : a < 1000000) : am_tv E (.ref a) = .ref (B + a) := by show Value.ref (E.1 a) = _; rw [G.2.2.2.2.2.2.2.1 a hlt]
theorem am_ald_ok (Cx : am_Cx r B D dA E xs b p l s m meth c) (hR : am_Rel B D dA E h H) (hS : va_S (am_A B) s.heap H locs) {tk : Nat} (htk : tk < 4) {S' : List Value} (hf : am_ald xs.1 tk S h = some S') (hd : decode r.2.1 pc = .ok (am_aldI tk, 1))
    (k : W p l e R s m args below meth c H locs cells slots Q (F0 m (pc + 1) ls (S'.map (am_tv E)))) : W p l e R s m args below meth c H locs cells slots Q (F0 m pc ls (S.map (am_tv E))) := by
  obtain ⟨hx, hb, hml, hr, hlk, htb, hown, hnm, hst, hI, G, hB⟩ := Cx
  unfold am_ald at hf
  split at hf
  · rename_i i a T
    split at hf
    · rename_i tj t hget
      split at hf
      · rename_i hbeq
        split at hf
        · rename_i v hv
          cases hf
          cases (Nat.eq_of_beq_eq_true hbeq : tj = tk)
          obtain ⟨hlt, hcell⟩ := am_get_ok hget
          obtain ⟨-, g1⟩ := hR.2 a _ hcell
          obtain ⟨h0, h1, h2⟩ := am_ix_ok hv
          have harr := am_arr G htk t.length (fun j => am_tv E (t.getD j .null))
          rw [List.map_cons, List.map_cons, am_ref G hlt]
          have hin : ¬ (i < 0 ∨ (arrV (dA tk) t.length (fun j => am_tv E (t.getD j .null))).slots.size ≤ i.toNatClampNeg) := by
            rw [arrV_size]
            exact fun q => q.elim h0 (fun q => Nat.not_lt.mpr q h1)
          have hval : (arrV (dA tk) t.length (fun j => am_tv E (t.getD j .null))).slots[i.toNatClampNeg]? = some (am_tv E v) := by
            rw [arrV_read _ _ h1]
            show some (am_tv E (t.getD _ .null)) = _
            rw [am_getD h2]
          rcases (show tk = 0 ∨ tk = 1 ∨ tk = 2 ∨ tk = 3 by omega) with rfl | rfl | rfl | rfl
          · exact W.iald hx hb g1 harr (fun z => by cases z) hin hval rfl rfl hd k
          · exact W.zald hx hb g1 harr (fun z => by cases z) hin hval rfl rfl hd k
          · exact W.lald hx hb g1 harr (fun z => by cases z) hin hval rfl rfl hd k
          · exact W.aald (ty := .object RX4) hx hb g1 harr rfl (fun z => by cases z) hin hval rfl rfl hd k
        · cases hf
      · cases hf
    · cases hf
    · split at hf
      · rename_i hbeq
        split at hf
        · rename_i v hv
          cases hf
          simp only [Bool.and_eq_true] at hbeq
          cases (Nat.eq_of_beq_eq_true hbeq.1 : a = 2000000)
          cases (Nat.eq_of_beq_eq_true hbeq.2 : tk = 0)
          obtain ⟨h0, h1, h2⟩ := am_ix_ok hv
          obtain ⟨xr, hX, hxr⟩ := G.2.2.2.2.2.1
          have hbl : b < B := G.2.2.2.2.2.2.1
          rw [List.map_cons, List.map_cons, show am_tv E (.ref 2000000) = .ref b by show Value.ref (E.1 2000000) = _; rw [G.2.2.2.2.2.2.2.2.1]]
          refine va_sld hx hb hX (Nat.lt_of_lt_of_le hbl hB) (Nat.not_le.mpr hbl) hS (fun q => q.elim h0 (fun q => Nat.not_lt.mpr q h1)) hd ?_
          rw [← hxr _ _ h2]
          exact k
        · cases hf
      · cases hf
  · cases hf
theorem am_len_ok (Cx : am_Cx r B D dA E xs b p l s m meth c) (hR : am_Rel B D dA E h H) (hS : va_S (am_A B) s.heap H locs) {S' : List Value} (hf : am_len xs.1 S h = some S') (hd : decode r.2.1 pc = .ok (.arraylength, 1))
    (k : W p l e R s m args below meth c H locs cells slots Q (F0 m (pc + 1) ls (S'.map (am_tv E)))) : W p l e R s m args below meth c H locs cells slots Q (F0 m pc ls (S.map (am_tv E))) := by
  obtain ⟨hx, hb, hml, hr, hlk, htb, hown, hnm, hst, hI, G, hB⟩ := Cx
  unfold am_len at hf
  split at hf
  · rename_i a T
    split at hf
    · rename_i tj t hget
      cases hf
      obtain ⟨hlt, hcell⟩ := am_get_ok hget
      obtain ⟨htk, g1⟩ := hR.2 a _ hcell
      rw [List.map_cons, am_ref G hlt]
      exact W.alen (n := Int32.ofNat t.length) hx hb g1 (am_arr G htk _ _) (by rw [arrV_size] <;> rfl) rfl rfl hd k
    · cases hf
    · split at hf
      · rename_i hbeq
        cases hf
        cases (Nat.eq_of_beq_eq_true hbeq : a = 2000000)
        obtain ⟨xr, hX, hxr⟩ := G.2.2.2.2.2.1
        have hbl : b < B := G.2.2.2.2.2.2.1
        rw [List.map_cons, show am_tv E (.ref 2000000) = .ref b by show Value.ref (E.1 2000000) = _; rw [G.2.2.2.2.2.2.2.2.1]]
        exact va_slen hx hb hX (Nat.lt_of_lt_of_le hbl hB) (Nat.not_le.mpr hbl) hS hd k
      · cases hf
  · cases hf
theorem am_arr_set {tk n : Nat} {t : List Value} {i : Nat} (hi : i < t.length) (w : Value) : (arrV (dA tk) t.length (fun j => am_tv E (t.getD j .null))).setSlot i (am_tv E w) = arrV (dA tk) (t.set i w).length (fun j => am_tv E ((t.set i w).getD j .null)) := by
  rw [arrV_store, List.length_set]
  congr 1
  funext j
  exact am_setV hi w j
theorem am_ast_ok (Cx : am_Cx r B D dA E xs b p l s m meth c) (hR : am_Rel B D dA E h H) (hS : va_S (am_A B) s.heap H locs) {tk : Nat} (htk : tk < 4) {q9 : List Value × aH} (hf : am_ast tk S h = some q9) (hd : decode r.2.1 pc = .ok (am_astI tk, 1))
    (k : ∀ (H1 : Heap) (locs1 : List Loc), am_Rel B D dA E q9.2 H1 → va_S (am_A B) s.heap H1 locs1 → W p l e R s m args below meth c H1 locs1 cells slots Q (F0 m (pc + 1) ls (q9.1.map (am_tv E)))) : W p l e R s m args below meth c H locs cells slots Q (F0 m pc ls (S.map (am_tv E))) := by
  obtain ⟨hx, hb, hml, hr, hlk, htb, hown, hnm, hst, hI, G, hB⟩ := Cx
  unfold am_ast at hf
  split at hf
  · rename_i v i a T
    split at hf
    · rename_i tj t hget
      split at hf
      · rename_i hbeq
        split at hf
        · rename_i w hw
          cases hf
          simp only [Bool.and_eq_true, Bool.not_eq_true', decide_eq_false_iff_not] at hbeq
          obtain ⟨⟨hbeq, h0⟩, h1⟩ := hbeq
          have h1 : i.toNatClampNeg < t.length := by simpa using h1
          cases (Nat.eq_of_beq_eq_true hbeq : tj = tk)
          obtain ⟨hlt, hcell⟩ := am_get_ok hget
          obtain ⟨-, g1⟩ := hR.2 a _ hcell
          have harr := am_arr G htk t.length (fun j => am_tv E (t.getD j .null))
          rw [List.map_cons, List.map_cons, List.map_cons, am_ref G hlt]
          have hin : ¬ (i < 0 ∨ (arrV (dA tk) t.length (fun j => am_tv E (t.getD j .null))).slots.size ≤ i.toNatClampNeg) := by
            rw [arrV_size]
            exact fun q => q.elim h0 (fun q => Nat.not_lt.mpr q h1)
          have fin : ∀ H1 : Heap, H1[B + a]? = some ((arrV (dA tk) t.length (fun j => am_tv E (t.getD j .null))).setSlot i.toNatClampNeg (am_tv E w)) → H1.size = H.size → (∀ z, z ≠ B + a → H1[z]? = H[z]?) →
              W p l e R s m args below meth c H1 (locs ++ [⟨B + a, i.toNatClampNeg⟩]) cells slots Q (F0 m (pc + 1) ls (T.map (am_tv E))) := by
            intro H1 e1 e2 e3
            refine k H1 _ (hR.set hcell e2 e3 ⟨htk, ?_⟩) (am_S_put hS e2 e3)
            rw [e1, am_arr_set (n := 0) h1 w]
          rcases (show tk = 0 ∨ tk = 1 ∨ tk = 2 ∨ tk = 3 by omega) with rfl | rfl | rfl | rfl
          · change am_el0 v = some w at hw
            unfold am_el0 at hw
            split at hw
            · rename_i h9
              cases hw
              obtain ⟨x, hv⟩ := am_tvI (E := E) h9
              rw [hv] at fin ⊢
              exact W.iast hx hb g1 harr (fun z => by cases z) hin rfl rfl hd fin
            · cases hw
          · change am_el1 v = some w at hw
            unfold am_el1 at hw
            split at hw
            · cases hw
              exact W.zast hx hb g1 harr (fun z => by cases z) hin rfl rfl hd fin
            · cases hw
          · change am_el2 v = some w at hw
            unfold am_el2 at hw
            split at hw
            · rename_i h9
              cases hw
              obtain ⟨x, hv⟩ := am_tvL (E := E) h9
              rw [hv] at fin ⊢
              exact W.last hx hb g1 harr (fun z => by cases z) hin rfl rfl hd fin
            · cases hw
          · change am_el3 h v = some w at hw
            unfold am_el3 at hw
            split at hw
            · rename_i a2
              split at hw
              · rename_i ci fs hget2
                split at hw
                · rename_i h9
                  cases hw
                  cases (Nat.eq_of_beq_eq_true h9 : ci = 4)
                  obtain ⟨hlt2, hcell2⟩ := am_get_ok hget2
                  obtain ⟨q', hq', hlen, cellV, v1, v2, v3, -⟩ := hR.2 a2 _ hcell2
                  cases hq'
                  have hcls := (G.2.1.1 4 _ rfl).2
                  obtain ⟨kA, comp, k1, k2, k3, -⟩ := (G.2.1.2 3 _ rfl).2
                  have hcomp : comp = D.1 4 := Option.some.inj (k3.symm.trans hcls.1)
                  subst hcomp
                  obtain ⟨kC, hkC, -⟩ := hcls.2
                  rw [am_ref G hlt2] at fin ⊢
                  exact W.aast hx hb g1 (fun q h => by cases h) (fun h => by cases h) k1 k2 rfl hkC ⟨h0, by rw [arrV_size]; exact h1⟩ v1 (fun q h => by rw [v3] at h; cases h) (by rw [v2]; exact hkC) (by rw [v2]; exact va_assign hcls) rfl rfl hd fin
                · cases hw
              · cases hw
            · cases hw
        · cases hf
      · cases hf
    · cases hf
  · cases hf
end AmArr
end
section
/-! SOUNDNESS: makings, constants, and every instruction that stays in the method -/
section AmMake
variable {p : Program} {l : Launch} {e : Env} {R : Room} {s : State} {m : MethodId} {args : Array Value} {below : List Frame} {meth : Method} {c : Code} {H : Heap} {locs : List Loc} {cells slots : Nat} {Q : State → Prop}
variable {r : aM} {B : Nat} {D : va_G} {dA : Nat → ClassId} {E : aE} {xs : aX} {b : Nat} {pc : Nat} {ls : Array Slot} {L : aL} {S : List Value} {h : aH}
theorem am_plain_tv {v : Value} (hv : am_plain v = true) : am_tv E v = v := by
  cases v <;> first | rfl | cases hv
theorem am_top (G : am_G B D dA E xs b s) (hR : am_Rel B D dA E h H) (hlt : h.length < 1000000) : Value.ref H.size = am_tv E (.ref h.length) := by
  rw [am_ref G hlt, hR.1]
theorem am_new_ok (Cx : am_Cx r B D dA E xs b p l s m meth c) (hR : am_Rel B D dA E h H) (hS : va_S (am_A B) s.heap H locs) {idx : Nat} {q9 : List Value × aH × Nat} (hf : am_new r.2.2.2.2.1 idx S h = some q9) (hd : decode r.2.1 pc = .ok (.new idx, 3))
    (hc : cells + 1 ≤ R.cells) (hs : slots + q9.2.2 ≤ R.slots)
    (k : ∀ (H1 : Heap), am_Rel B D dA E q9.2.1 H1 → va_S (am_A B) s.heap H1 locs → W p l e R s m args below meth c H1 locs (cells + 1) (slots + q9.2.2) Q (F0 m (pc + 3) ls (q9.1.map (am_tv E)))) : W p l e R s m args below meth c H locs cells slots Q (F0 m pc ls (S.map (am_tv E))) := by
  obtain ⟨hx, hb, hml, hr, hlk, htb, hown, hnm, hst, hI, G, hB⟩ := Cx
  unfold am_new at hf
  split at hf
  · rename_i ci hlook
    split at hf
    · rename_i hbeq
      cases hf
      simp only [Bool.and_eq_true] at hbeq
      have hlt : h.length < 1000000 := by simpa using hbeq.1
      obtain ⟨q, hq, hlink⟩ := am_nw_ok _ (am_look2_mem hlook)
      dsimp only at hq hlink
      have hok := am_cl_ok ci q hq
      have hnf := am_nf_eq hq
      dsimp only at hs k
      rw [hnf] at hs k
      have hKn := G.2.1.1 ci q hq
      refine W.newcK hx hb hown (G.1 _ hlink _) (G.1 _ hok.2.2.2.1 _) (G.1 _ hok.2.2.2.2 _) rfl hd hc hs hKn.2.1 rfl fun H1 kC hkC e1 z1 o1 => ?_
      have hborn := u_born (am_ty ci) (am_cls_w (args := args) G hq) (fun w h => h) hKn hkC e1 hok.2.1
      have hk := k H1 (hR.push (c := some (false, ci, am_blank ci)) z1 o1 (fun c' hc' => by
        cases hc'
        refine ⟨q, hq, by unfold am_blank; rw [List.length_map, List.length_range, hnf], ?_⟩
        rw [hR.1] at hborn
        refine hborn.to fun j hj => ?_
        have hjb : (am_blank ci)[j]? = some (defaultValue (am_ty ci j)) := by
          unfold am_blank
          rw [List.getElem?_map, List.getElem?_range (by rw [hnf]; exact hj)]
          rfl
        show _ = am_tv E ((am_blank ci).getD j .null)
        rw [am_getD hjb, am_plain_tv (List.all_eq_true.mp hbeq.2 _ (List.mem_of_getElem? hjb))])) (am_S_push hS z1 o1)
      rw [List.map_cons, ← am_top G hR hlt] at hk
      exact hk
    · cases hf
  · cases hf
def am_nai : Nat → ArrayType := fun t => match t with
  | 0 => .int
  | 1 => .boolean
  | _ => .long
def am_z : Nat → Value := fun t => match t with
  | 2 => .long 0
  | 3 => .null
  | _ => .int 0
theorem am_rep {n : Nat} {z : Value} (hz : am_tv E z = z) (cA : ClassId) : arrV cA n (fun _ => z) = arrV cA (List.replicate n z).length (fun j => am_tv E ((List.replicate n z).getD j .null)) := by
  rw [List.length_replicate]
  unfold arrV
  congr 1
  apply Array.ext
  · simp
  · intro i h1 h2
    have hi : i < n := by simpa using h1
    simp [List.getD_eq_getElem?_getD, List.getElem?_replicate, hi, hz]
theorem am_newa_ok (Cx : am_Cx r B D dA E xs b p l s m meth c) (hR : am_Rel B D dA E h H) (hS : va_S (am_A B) s.heap H locs) {tk : Nat} (htk : tk < 3) {q9 : List Value × aH × Nat} (hf : am_newa tk (am_z tk) S h = some q9) (hd : decode r.2.1 pc = .ok (.newarray (am_nai tk), 2))
    (hc : cells + 1 ≤ R.cells) (hs : slots + q9.2.2 ≤ R.slots)
    (k : ∀ (H1 : Heap), am_Rel B D dA E q9.2.1 H1 → va_S (am_A B) s.heap H1 locs → W p l e R s m args below meth c H1 locs (cells + 1) (slots + q9.2.2) Q (F0 m (pc + 2) ls (q9.1.map (am_tv E)))) : W p l e R s m args below meth c H locs cells slots Q (F0 m pc ls (S.map (am_tv E))) := by
  obtain ⟨hx, hb, hml, hr, hlk, htb, hown, hnm, hst, hI, G, hB⟩ := Cx
  unfold am_newa at hf
  split at hf
  · rename_i n T
    split at hf
    · cases hf
    · rename_i hbeq
      cases hf
      simp only [Bool.or_eq_false_iff, Bool.not_eq_false', decide_eq_false_iff_not] at hbeq
      obtain ⟨⟨hn, hlt⟩, hN⟩ := hbeq
      have hlt : h.length < 1000000 := by simpa using hlt
      have hN : n.toNatClampNeg < 1000000 := by simpa using hN
      rw [List.map_cons]
      have fin : ∀ (H1 : Heap) (cA : ClassId), H1[H.size]? = some (arrV cA n.toNatClampNeg (fun _ => am_z tk)) → H1.size = H.size + 1 → (∀ q, q < H.size → H1[q]? = H[q]?) → cA = dA tk →
          W p l e R s m args below meth c H1 locs (cells + 1) (slots + n.toNatClampNeg) Q (F0 m (pc + 2) ls (.ref H.size :: T.map (am_tv E))) := by
        intro H1 cA e1 z1 o1 hcA
        subst hcA
        have hk := k H1 (hR.push (c := some (true, tk, List.replicate n.toNatClampNeg (am_z tk))) z1 o1 (fun c' hc' => by
          cases hc'
          refine ⟨by omega, ?_⟩
          rw [← hR.1, e1, am_rep (E := E) (by rcases (show tk = 0 ∨ tk = 1 ∨ tk = 2 by omega) with rfl | rfl | rfl <;> rfl)])) (am_S_push hS z1 o1)
        rw [List.map_cons, ← am_top G hR hlt] at hk
        exact hk
      rcases (show tk = 0 ∨ tk = 1 ∨ tk = 2 by omega) with rfl | rfl | rfl
      · exact va_newaK (atype := .int) hx hb (G.1 (.arrayClass .int) am_wI args) rfl hd rfl hn rfl (by show _ * 4 ≤ _; omega) hc hs rfl fun H1 cA e1 z1 o1 _ hNm => fin H1 cA e1 z1 o1 (Option.some.inj (hNm.symm.trans (G.2.1.2 0 _ rfl).2))
      · exact va_newaK (atype := .boolean) hx hb (G.1 (.arrayClass .boolean) am_wZ args) rfl hd rfl hn rfl (by show _ * 1 ≤ _; omega) hc hs rfl fun H1 cA e1 z1 o1 _ hNm => fin H1 cA e1 z1 o1 (Option.some.inj (hNm.symm.trans (G.2.1.2 1 _ rfl).2))
      · exact va_newaK (atype := .long) hx hb (G.1 (.arrayClass .long) am_wJ args) rfl hd rfl hn rfl (by show _ * 8 ≤ _; omega) hc hs rfl fun H1 cA e1 z1 o1 _ hNm => fin H1 cA e1 z1 o1 (Option.some.inj (hNm.symm.trans (G.2.1.2 2 _ rfl).2))
  · cases hf
theorem am_anew_ok (Cx : am_Cx r B D dA E xs b p l s m meth c) (hR : am_Rel B D dA E h H) (hS : va_S (am_A B) s.heap H locs) {idx : Nat} (hlook : am_look2 am_nw r.2.2.2.2.1 idx = some 4) {q9 : List Value × aH × Nat} (hf : am_newa 3 .null S h = some q9) (hd : decode r.2.1 pc = .ok (.anewarray idx, 3))
    (hc : cells + 1 ≤ R.cells) (hs : slots + q9.2.2 ≤ R.slots)
    (k : ∀ (H1 : Heap), am_Rel B D dA E q9.2.1 H1 → va_S (am_A B) s.heap H1 locs → W p l e R s m args below meth c H1 locs (cells + 1) (slots + q9.2.2) Q (F0 m (pc + 3) ls (q9.1.map (am_tv E)))) : W p l e R s m args below meth c H locs cells slots Q (F0 m pc ls (S.map (am_tv E))) := by
  obtain ⟨hx, hb, hml, hr, hlk, htb, hown, hnm, hst, hI, G, hB⟩ := Cx
  obtain ⟨q, hq, hlink⟩ := am_nw_ok _ (am_look2_mem hlook)
  cases hq
  unfold am_newa at hf
  split at hf
  · rename_i n T
    split at hf
    · cases hf
    · rename_i hbeq
      cases hf
      simp only [Bool.or_eq_false_iff, Bool.not_eq_false', decide_eq_false_iff_not] at hbeq
      obtain ⟨⟨hn, hlt⟩, hN⟩ := hbeq
      have hlt : h.length < 1000000 := by simpa using hlt
      have hN : n.toNatClampNeg < 1000000 := by simpa using hN
      rw [List.map_cons]
      refine W.anew hx hb hown (G.1 _ hlink _) (va_AO.use G.2.2.1) rfl hd rfl hn (by omega) hc hs fun cA kA comp f1 f2 f3 f4 => ?_
      generalize hH1 : H.push ({ cls := cA, slots := Array.replicate n.toNatClampNeg .null, vm := .none } : Cell) = H1
      have z1 : H1.size = H.size + 1 := by rw [← hH1, Array.size_push]
      have e1 : H1[H.size]? = some (arrV cA n.toNatClampNeg (fun _ => .null)) := by rw [← hH1, Array.getElem?_push_size, ← arrV_new]
      have o1 : ∀ q : Nat, q < H.size → H1[q]? = H[q]? := fun q hq => by rw [← hH1, Array.getElem?_push, if_neg (Nat.ne_of_lt hq)]
      obtain ⟨kA', comp', k1, k2, k3, k4⟩ := (G.2.1.2 3 _ rfl).2
      have hcA : cA = dA 3 := Option.some.inj (f1.symm.trans k4)
      subst hcA
      have hk := k H1 (hR.push (c := some (true, 3, List.replicate n.toNatClampNeg .null)) z1 o1 (fun c' hc' => by
        cases hc'
        refine ⟨by omega, ?_⟩
        rw [← hR.1, e1, am_rep (E := E) rfl])) (am_S_push hS z1 o1)
      rw [List.map_cons, ← am_top G hR hlt] at hk
      exact hk
  · cases hf
/-- every instruction that stays in the method and calls nothing -/
theorem am_sim_ok (Cx : am_Cx r B D dA E xs b p l s m meth c) (hR : am_Rel B D dA E h H) (hS : va_S (am_A B) s.heap H locs) (hl : lv_has ls r.2.2.1 (am_lm E L)) {i : Instr} {len : Nat} {n : aN} (hf : am_sim xs r i len pc L S h = some n) (hd : decode r.2.1 pc = .ok (i, len))
    (hc : cells + n.2.2.2.2.1 ≤ R.cells) (hs : slots + n.2.2.2.2.2 ≤ R.slots)
    (k : ∀ (H1 : Heap) (locs1 : List Loc) (ls1 : Array Slot), am_Rel B D dA E n.2.2.2.1 H1 → va_S (am_A B) s.heap H1 locs1 → lv_has ls1 r.2.2.1 (am_lm E n.2.1) → W p l e R s m args below meth c H1 locs1 (cells + n.2.2.2.2.1) (slots + n.2.2.2.2.2) Q (F0 m n.1 ls1 (n.2.2.1.map (am_tv E)))) :
    W p l e R s m args below meth c H locs cells slots Q (F0 m pc ls (S.map (am_tv E))) := by
  have hx := Cx.1
  have hb := Cx.2.1
  unfold am_sim at hf
  split at hf
  · rename_i q hq
    split at hf
    · rename_i h9
      cases hf
      refine am_br_ok hx hb hq hd ?_ (k H locs ls hR hS hl)
      simp only [Bool.or_eq_true] at h9
      rcases h9 with h9 | h9
      · exact Or.inl (Nat.eq_of_beq_eq_true h9)
      · right
        unfold am_isT at h9
        split at h9
        · exact ⟨_, _, _, _, rfl⟩
        · cases h9
    · cases hf
  · split at hf
    · rename_i q hq
      split at hf
      · rename_i h9
        cases hf
        refine am_obr_ok Cx.2.2.2.2.2.2.2.2.2.2.1.2.2.2.2.2.2.2.2.2.2.2.1 hx hb hq hd ?_ (k H locs ls hR hS hl)
        simp only [Bool.or_eq_true] at h9
        rcases h9 with h9 | h9
        · exact Or.inl (Nat.eq_of_beq_eq_true h9)
        · right
          unfold am_isT at h9
          split at h9
          · exact ⟨_, _, _, _, rfl⟩
          · cases h9
      · cases hf
    split at hf
    · cases hf
    · rename_i hbeq
      cases (Nat.eq_of_beq_eq_true hbeq : len = am_ilen i)
      split at hf
      · rename_i S' hq
        cases hf
        exact am_pure_ok hx hb hq hd (k H locs ls hR hS hl)
      · split at hf
        · rename_i v hq
          cases hf
          exact am_ld_ok hx hb hl hq hd (k H locs ls hR hS hl)
        · split at hf
          · rename_i q hq
            split at hf
            · rename_i hlt
              cases hf
              exact am_sto_ok hx hb hl hq (by simpa using hlt) hd (fun ls' hl' => k H locs ls' hR hS hl')
            · cases hf
          · split at hf
            · obtain ⟨S', h1, rfl⟩ := Option.map_eq_some_iff.mp hf
              exact am_getf_ok Cx hR h1 hd (k H locs ls hR hS hl)
            · obtain ⟨q, h1, rfl⟩ := Option.map_eq_some_iff.mp hf
              exact am_putf_ok Cx hR hS h1 hd (fun H1 locs1 hR1 hS1 => k H1 locs1 ls hR1 hS1 hl)
            · obtain ⟨S', h1, rfl⟩ := Option.map_eq_some_iff.mp hf
              exact am_ald_ok (tk := 0) Cx hR hS (by omega) h1 hd (k H locs ls hR hS hl)
            · obtain ⟨S', h1, rfl⟩ := Option.map_eq_some_iff.mp hf
              exact am_ald_ok (tk := 1) Cx hR hS (by omega) h1 hd (k H locs ls hR hS hl)
            · obtain ⟨S', h1, rfl⟩ := Option.map_eq_some_iff.mp hf
              exact am_ald_ok (tk := 2) Cx hR hS (by omega) h1 hd (k H locs ls hR hS hl)
            · obtain ⟨S', h1, rfl⟩ := Option.map_eq_some_iff.mp hf
              exact am_ald_ok (tk := 3) Cx hR hS (by omega) h1 hd (k H locs ls hR hS hl)
            · obtain ⟨q, h1, rfl⟩ := Option.map_eq_some_iff.mp hf
              exact am_ast_ok (tk := 0) Cx hR hS (by omega) h1 hd (fun H1 locs1 hR1 hS1 => k H1 locs1 ls hR1 hS1 hl)
            · obtain ⟨q, h1, rfl⟩ := Option.map_eq_some_iff.mp hf
              exact am_ast_ok (tk := 1) Cx hR hS (by omega) h1 hd (fun H1 locs1 hR1 hS1 => k H1 locs1 ls hR1 hS1 hl)
            · obtain ⟨q, h1, rfl⟩ := Option.map_eq_some_iff.mp hf
              exact am_ast_ok (tk := 2) Cx hR hS (by omega) h1 hd (fun H1 locs1 hR1 hS1 => k H1 locs1 ls hR1 hS1 hl)
            · obtain ⟨q, h1, rfl⟩ := Option.map_eq_some_iff.mp hf
              exact am_ast_ok (tk := 3) Cx hR hS (by omega) h1 hd (fun H1 locs1 hR1 hS1 => k H1 locs1 ls hR1 hS1 hl)
            · obtain ⟨S', h1, rfl⟩ := Option.map_eq_some_iff.mp hf
              exact am_len_ok Cx hR hS h1 hd (k H locs ls hR hS hl)
            · obtain ⟨q, h1, rfl⟩ := Option.map_eq_some_iff.mp hf
              exact am_new_ok Cx hR hS h1 hd hc hs (fun H1 hR1 hS1 => k H1 locs ls hR1 hS1 hl)
            · obtain ⟨q, h1, rfl⟩ := Option.map_eq_some_iff.mp hf
              exact am_newa_ok (tk := 0) Cx hR hS (by omega) h1 hd hc hs (fun H1 hR1 hS1 => k H1 locs ls hR1 hS1 hl)
            · obtain ⟨q, h1, rfl⟩ := Option.map_eq_some_iff.mp hf
              exact am_newa_ok (tk := 1) Cx hR hS (by omega) h1 hd hc hs (fun H1 hR1 hS1 => k H1 locs ls hR1 hS1 hl)
            · obtain ⟨q, h1, rfl⟩ := Option.map_eq_some_iff.mp hf
              exact am_newa_ok (tk := 2) Cx hR hS (by omega) h1 hd hc hs (fun H1 hR1 hS1 => k H1 locs ls hR1 hS1 hl)
            · split at hf
              · rename_i hlook
                obtain ⟨q, h1, rfl⟩ := Option.map_eq_some_iff.mp hf
                exact am_anew_ok Cx hR hS hlook h1 hd hc hs (fun H1 hR1 hS1 => k H1 locs ls hR1 hS1 hl)
              · cases hf
            · split at hf
              · rename_i v hlook
                cases hf
                exact lv_ldc hx hb Cx.2.2.2.2.2.2.1 (Cx.2.2.2.2.2.2.2.2.2.2.1.1 _ (am_c32_ok _ (am_look2_mem hlook)) _) hd (k H locs ls hR hS hl)
              · cases hf
            · split at hf
              · rename_i v hlook
                cases hf
                exact lv_ldc2 hx hb Cx.2.2.2.2.2.2.1 (Cx.2.2.2.2.2.2.2.2.2.2.1.1 _ (am_c64_ok _ (am_look2_mem hlook)) _) hd (k H locs ls hR hS hl)
              · cases hf
            · obtain ⟨S', h1, rfl⟩ := Option.map_eq_some_iff.mp hf
              exact am_sym_ok Cx.2.2.2.2.2.2.2.2.2.2.1.2.2.2.2.2.2.2.2.2.2.2.1 hx hb h1 hd (k H locs ls hR hS hl)
end AmMake
end
section
/-! THE ABSTRACT MACHINE: calls, returns, throws; and its runs -/
def am_sum (S : List Value) : Nat := (S.map fun v => v.category).sum
def am_ri (t : Option FieldType) : List Value → Option Value
  | [v] => match t with
    | some .int => match am_isI v with
      | true => some v
      | false => none
    | some .boolean => match decide (v = .int 0) || decide (v = .int 1) with
      | true => some v
      | false => none
    | _ => none
  | _ => none
def am_ra (t : Option FieldType) : List Value → Option Value
  | [.ref k] => match t with
    | some (.object _) => some (.ref k)
    | _ => none
  | _ => none
def am_rv (t : Option FieldType) : List Value → Bool
  | [] => match t with
    | none => true
    | _ => false
  | _ => false
/-- 'throw new E()' at pc: which E -/
def am_thr (r : aM) (ik pc : Nat) : Option Nat := match am_look2 am_xw r.2.2.2.2.1 ik with
  | some q => match decide (am_look r.2.2.2.2.2.2.2 (pc + 3) = some (.dup, 1)) && decide (am_look r.2.2.2.2.2.2.2 (pc + 4) = some (.invokespecial q.1, 3)) && decide (am_look r.2.2.2.2.2.2.2 (pc + 7) = some (.athrow, 1)) && r.2.2.2.2.2.1.isEmpty with
    | true => some q.2
    | false => none
  | none => none
def am_hand (o pc x : Nat) : List (Nat × Nat × Nat × Nat) → Option (Option Nat)
  | [] => some none
  | a :: t => match Nat.ble a.1 pc && Nat.blt pc a.2.1 with
    | false => am_hand o pc x t
    | true => match Nat.beq a.2.2.2 0 with
      | true => none
      | false => match am_look2 am_hc o a.2.2.2 with
        | none => none
        | some y => match Nat.beq y x with
          | true => some (some a.2.2.1)
          | false => match Nat.blt x 4 && Nat.blt y 4 with
            | false => none
            | true => match am_hand o pc x t with
              | some (some g) => some (some g)
              | _ => none
def am_rc1 (a : aM) (h : aH) : List Value → Bool
  | .ref q :: _ => match am_get h q with
    | some (false, ci, _) => Nat.beq ci a.2.2.2.2.1
    | _ => false
  | _ => false
def am_rc2 : List Value → Bool
  | .ref _ :: _ => true
  | _ => false
def am_recv (kind : Nat) (a : aM) (h : aH) (As : List Value) : Bool := match kind with
  | 0 => true
  | 1 => am_rc1 a h As
  | _ => am_rc2 As
def am_nar (kind : Nat) (a : aM) : Nat := match kind with
  | 0 => a.2.2.2.2.2.2.1
  | _ => a.2.2.2.2.2.2.1 + 1
/-- behind a call -/
def am_beh2 (r : aM) (pc : Nat) (L : aL) (rest : List Value) : aR → Option (aN ⊕ aR)
  | (.inl v, h', k, j) => some (.inl (pc + 3, L, v.toList ++ rest, h', k, j))
  | (.inr x, h', k, j) => match am_hand r.2.2.2.2.1 pc x r.2.2.2.2.2.1 with
    | none => none
    | some none => some (.inr (.inr x, h', k, j))
    | some (some hp) => match Nat.blt (h'.length - 1) 1000000 with
      | true => some (.inl (hp, L, [.ref (h'.length - 1)], h', k, j))
      | false => none
def am_invk (call : aM → List Value → aH → Option aR) (r : aM) (kind idx pc : Nat) (L : aL) (S : List Value) (h : aH) : Option (aN ⊕ aR) := match am_look2 am_lk r.2.2.2.2.1 idx with
  | none => none
  | some q => match Nat.beq q.2 kind with
    | false => none
    | true => match am_prog[q.1]? with
      | none => none
      | some a => match Nat.beq ((S.take (am_nar kind a)).reverse).length (am_nar kind a) && Nat.ble (am_sum (S.drop (am_nar kind a))) 8 && Nat.ble (am_sum ((S.take (am_nar kind a)).reverse)) a.2.2.1 && am_recv kind a h ((S.take (am_nar kind a)).reverse) with
        | false => none
        | true => match call a ((S.take (am_nar kind a)).reverse) h with
          | none => none
          | some q => am_beh2 r pc L (S.drop (am_nar kind a)) q
/-- Object's constructor; String.length of a constant -/
def am_oi : List (Nat × Nat × Nat) := am_oiT
def am_obj (o idx : Nat) : List Value → Option (List Value)
  | .ref _ :: S => match am_look2 am_oi o idx with
    | some _ => match Nat.ble (am_sum S) 8 with
      | true => some S
      | false => none
    | none => none
  | _ => none
def am_slen (o idx : Nat) : List Value → Option (List Value)
  | .ref k :: S => match am_look2 am_sli o idx with
    | some _ => match Nat.ble 1000000 k && Nat.blt k (1000000 + am_sn) && Nat.ble (am_sum S) 8 with
      | true => some (.int (Int32.ofNat (am_sl (k - 1000000))) :: S)
      | false => none
    | none => none
  | _ => none
/-- String.charAt of a constant -/
def am_schr (o idx : Nat) : List Value → Option (List Value)
  | .int j :: .ref k :: S => match am_look2 am_sci o idx with
    | some _ => match Nat.ble 1000000 k && Nat.blt k (1000000 + am_sn) && Nat.ble (am_sum S) 8 && !(decide (j < 0)) && Nat.blt j.toNatClampNeg (am_sl (k - 1000000)) with
      | true => some (.int ((am_sB.getD (k - 1000000) []).getD j.toNatClampNeg 0) :: S)
      | false => none
    | none => none
  | _ => none
def am_cpy (l0 l1 : List Value) (sp dp n : Nat) : List Value := l1.take dp ++ ((l0.drop sp).take n ++ l1.drop (dp + n))
/-- System.arraycopy of one array of ints to another -/
def am_acp (o idx : Nat) (S : List Value) (h : aH) : Option (List Value × aH) := match S with
  | .int n :: .int dp :: .ref d :: .int sp :: .ref s0 :: S => match am_look2 am_acT o idx with
    | some _ => match am_get h s0 with
      | some (true, t0, l0) => match am_get h d with
        | some (true, t1, l1) => match Nat.beq t0 0 && Nat.beq t1 0 && !(Nat.beq s0 d) && Nat.ble (am_sum S) 8 && !(decide (n < 0)) && !(decide (sp < 0)) && !(decide (dp < 0)) && Nat.ble (sp.toNatClampNeg + n.toNatClampNeg) l0.length && Nat.ble (dp.toNatClampNeg + n.toNatClampNeg) l1.length && ((l0.drop sp.toNatClampNeg).take n.toNatClampNeg).all am_isI with
          | true => some (S, h.set d (some (true, 0, am_cpy l0 l1 sp.toNatClampNeg dp.toNatClampNeg n.toNatClampNeg)))
          | false => none
        | _ => none
      | _ => none
    | none => none
  | _ => none
def am_ldcs (o idx : Nat) : Option Value := match am_look2 am_st o idx with
  | some i => some (.ref (1000000 + i))
  | none => none
def am_step (xs : aX) (call : aM → List Value → aH → Option aR) (r : aM) (i : Instr) (len pc : Nat) (L : aL) (S : List Value) (h : aH) : Option (aN ⊕ aR) := match am_sim xs r i len pc L S h with
  | some n => some (.inl n)
  | none => match Nat.beq len (am_ilen i) with
    | false => none
    | true => match i with
      | .ireturn => (am_ri r.2.2.2.1 S).map (fun v => .inr (.inl (some v), h, 0, 0))
      | .areturn => (am_ra r.2.2.2.1 S).map (fun v => .inr (.inl (some v), h, 0, 0))
      | .return_ => match am_rv r.2.2.2.1 S with
        | true => some (.inr (.inl none, h, 0, 0))
        | false => none
      | .new ik => match am_thr r ik pc with
        | some x => match Nat.ble (am_sum S) 8 with
          | true => some (.inr (.inr x, h ++ [none], 1, 6))
          | false => none
        | none => none
      | .ldc idx => (am_ldcs r.2.2.2.2.1 idx).map (fun v => .inl (pc + 2, L, v :: S, h, 0, 0))
      | .invokestatic idx => match am_acp r.2.2.2.2.1 idx S h with
        | some q => some (.inl (pc + 3, L, q.1, q.2, 0, 0))
        | none => am_invk call r 0 idx pc L S h
      | .invokevirtual idx => match am_slen r.2.2.2.2.1 idx S with
        | some S' => some (.inl (pc + 3, L, S', h, 0, 0))
        | none => match am_schr r.2.2.2.2.1 idx S with
          | some S' => some (.inl (pc + 3, L, S', h, 0, 0))
          | none => am_invk call r 1 idx pc L S h
      | .invokespecial idx => match am_obj r.2.2.2.2.1 idx S with
        | some S' => some (.inl (pc + 3, L, S', h, 0, 0))
        | none => am_invk call r 2 idx pc L S h
      | _ => none
def am_cal (run : Nat → aM → Nat → aL → List Value → aH → Option aR) (d : Nat) : aM → List Value → aH → Option aR := match d with
  | 0 => fun _ _ _ => none
  | d' + 1 => fun a As h => run d' a 0 (lv_args 0 As) [] h
def am_then (run : Nat → aM → Nat → aL → List Value → aH → Option aR) (d : Nat) (r : aM) : aN ⊕ aR → Option aR
  | .inr t => some t
  | .inl t => match run d r t.1 t.2.1 t.2.2.1 t.2.2.2.1 with
    | none => none
    | some u => some (u.1, u.2.1, t.2.2.2.2.1 + u.2.2.1, t.2.2.2.2.2 + u.2.2.2)
def am_body (xs : aX) (run : Nat → aM → Nat → aL → List Value → aH → Option aR) (d : Nat) (r : aM) (pc : Nat) (L : aL) (S : List Value) (h : aH) : Option aR := match am_look r.2.2.2.2.2.2.2 pc with
  | none => none
  | some q => match am_step xs (am_cal run d) r q.1 q.2 pc L S h with
    | none => none
    | some t => am_then run d r t
/-- a run: n bounds its steps, d the depth of its calls -/
noncomputable def am_run (xs : aX) (n : Nat) : Nat → aM → Nat → aL → List Value → aH → Option aR :=
  Nat.rec (fun _ _ _ _ _ _ => none) (fun _ ih => am_body xs ih) n
theorem am_run_succ (xs : aX) (n d : Nat) (r : aM) (pc : Nat) (L : aL) (S : List Value) (h : aH) : am_run xs (n + 1) d r pc L S h = am_body xs (am_run xs n) d r pc L S h := rfl
end
section
/-! THE GROUND MOVES; String.length of a constant; how a method ends -/
theorem am_G.moved {B : Nat} {D : va_G} {dA : Nat → ClassId} {E : aE} {xs : aX} {b : Nat} {u U : State} (G : am_G B D dA E xs b u) (hW : u.WarmedH U.vm) (hh : ∀ q : Nat, q < u.heap.size → ¬ am_A B q → U.heap[q]? = u.heap[q]?) : am_G B D dA E xs b U := by
  obtain ⟨g1, g2, g3, g4, g5, ⟨xr, g6, g7⟩, g8, g9, g10, g11, ⟨g12, g13, adV, g14⟩, g15, g16⟩ := G
  have hA := hW.alike
  refine ⟨fun w hw a => am_warm hw.2 (args := #[]) hW (g1 w hw #[]), g2.moved hA, g3.moved hA, (g4.kept hh).moved hA, (g5.kept hh).moved hA, ⟨xr, ?_, g7⟩, g8, g9, g10, fun x y h1 h2 h3 => (g11 x y h1 h2 h3).moved hA, ⟨(g12.kept hh).moved hA, fun r hr => (g13 r hr).warm hW, adV, fun i hi => ?_⟩, g15, (g16.kept hh).moved hA⟩
  · refine va_X.moved hA (g6.kept (hh b ?_ (Nat.not_le.mpr g8)))
    obtain ⟨scr, h1, -⟩ := g6
    exact (Array.getElem?_eq_some_iff.mp h1).1
  · obtain ⟨k1, k2, k3, k4⟩ := g14 i hi
    exact ⟨(k1.kept hh).moved hA, (k2.kept hh).moved hA, (k3.kept hh).moved hA, (k4.kept hh).moved hA⟩
theorem am_calling {B : Nat} {D : va_G} {dA : Nat → ClassId} {E : aE} {xs : aX} {b : Nat} {s U : State} {H : Heap} {locs : List Loc} (G : am_G B D dA E xs b s) (hS : va_S (am_A B) s.heap H locs) (hU : U.heap = H) (hW : s.WarmedH U.vm) (g : JFrame) (mk : MethodId) (a : Array Value) : am_G B D dA E xs b (U.calling g mk a) :=
  G.moved hW (fun q h1 h2 => by
    show U.heap[q]? = _
    rw [hU]; exact hS.2.1 q h1 h2)
section AmEnds
variable {p : Program} {l : Launch} {e : Env} {R : Room} {s : State} {m : MethodId} {args : Array Value} {below : List Frame} {meth : Method} {c : Code} {H : Heap} {locs : List Loc} {cells slots : Nat} {Q : State → Prop}
variable {B : Nat} {D : va_G} {dA : Nat → ClassId} {E : aE} {xs : aX} {b : Nat} {pc : Nat} {ls : Array Slot} {L : aL} {S : List Value} {h : aH}
theorem am_ofMQ {Q0 : Array Value → State → Outcome → State → Prop} {Qc : Outcome → State → Prop} {mc ms : Nat} (hq : ∀ o t, Q0 args s o t → Qc o t) {t : State} (ht : MQ below Q0 args s mc ms (am_A B) t) : am_MQ below Qc mc ms B args s t := by
  obtain ⟨o, h1, h2, h3, L, ⟨⟨v, rfl⟩, h5, h6⟩, h7⟩ := ht
  exact ⟨_, h1, h2, hq _ _ h3, Or.inl ⟨v, rfl⟩, h5, L, h6, h7⟩
set_option maxRecDepth 100000 in
set_option maxHeartbeats 4000000 in
theorem am_coder (i : Nat) (hi : i < am_sn) (H0 : Heap) : am_Met l yJ0_coder_7d493 (am_cw yJ0_coder_7d493 cJ0_coder_7d493 1 (some .byte) []) { frames := 0, cells := 0, slots := 0, locals := 0 } (fun a U => a = ([Value.ref (E.1 (1000000 + i))] : List Value).toArray ∧ am_G B D dA E xs b U ∧ U.heap = H0) (fun o t => o = .returned (some (.int 0)) ∧ t.heap = H0) B := by
  refine am_ofW (by decide +kernel) ?_
  intro p e s m args below meth c hx hb hml hr hlk htb hme hnm hP
  obtain ⟨rfl, G, hH⟩ := hP
  have hown : s.vm.findClass RJ0 = some m.cls := findClass_of_methodNamed hnm
  have hl := lv_entry ([.ref (E.1 (1000000 + i))]) (n := 1) (Nat.le_of_ble_eq_true rfl)
  rw [lg_entry_eq]
  generalize (lg_sl ([.ref (E.1 (1000000 + i))]) ++ List.replicate (1 - (lg_sl ([.ref (E.1 (1000000 + i))])).length) Slot.unset).toArray = ls at hl ⊢
  have hl : lv_has ls 1 [(0, .ref (E.1 (1000000 + i)))] := hl
  have hS : va_S (am_A B) s.heap s.heap [] := va_S.rf
  obtain ⟨z1, -, adV, z3⟩ := G.2.2.2.2.2.2.2.2.2.2.1
  refine va_gets hx hb z1 hS hown (G.1 _ am_s8 _) (fun x h => h) dJ0_coder_7d493_0 ?_
  refine lv_if_eq (tgt := 13) hx hb dJ0_coder_7d493_3 (by decide) (fun h9 => absurd h9 (by decide)) (fun _ => ?_)
  refine lv_aload_n hx hb dJ0_coder_7d493_6 rfl (lv_at hl 0 rfl) ?_
  refine vk_getf hx hb (z3 i hi).2.1 hS hown (G.1 _ am_s9 _) (fun x h => h) dJ0_coder_7d493_7 ?_
  refine lv_goto (tgt := 14) hx hb dJ0_coder_7d493_10 (by decide) ?_
  exact am_mono (W.zret (Qc := fun _ _ o t => o = .returned (some (.int 0)) ∧ t.heap = H0) hx hb hr rfl (fun t ht _ => ⟨rfl, ht.trans hH⟩) (fun q hq => nomatch hq) dJ0_coder_7d493_14 hlk) (fun t ht => am_ofMQ (fun o t h => h) ht)
set_option maxRecDepth 100000 in
set_option maxHeartbeats 4000000 in
theorem am_length (i : Nat) (hi : i < am_sn) (H0 : Heap) : am_Met l yJ0_length_8abf5 (am_cw yJ0_length_8abf5 cJ0_length_8abf5 1 (some .int) []) { frames := 1, cells := 0, slots := 0, locals := 20 } (fun a U => a = ([Value.ref (E.1 (1000000 + i))] : List Value).toArray ∧ am_G B D dA E xs b U ∧ U.heap = H0) (fun o t => o = .returned (some (.int (Int32.ofNat (am_sl i)))) ∧ t.heap = H0) B := by
  refine am_ofW (by decide +kernel) ?_
  intro p e s m args below meth c hx hb hml hr hlk htb hme hnm hP
  obtain ⟨rfl, G, hH⟩ := hP
  have hown : s.vm.findClass RJ0 = some m.cls := findClass_of_methodNamed hnm
  have hl := lv_entry ([.ref (E.1 (1000000 + i))]) (n := 1) (Nat.le_of_ble_eq_true rfl)
  rw [lg_entry_eq]
  generalize (lg_sl ([.ref (E.1 (1000000 + i))]) ++ List.replicate (1 - (lg_sl ([.ref (E.1 (1000000 + i))])).length) Slot.unset).toArray = ls at hl ⊢
  have hl : lv_has ls 1 [(0, .ref (E.1 (1000000 + i)))] := hl
  have hS : va_S (am_A B) s.heap s.heap [] := va_S.rf
  obtain ⟨z1, -, adV, z3⟩ := id G.2.2.2.2.2.2.2.2.2.2.1
  refine lv_aload_n hx hb dJ0_length_8abf5_0 rfl (lv_at hl 0 rfl) ?_
  refine vk_getf hx hb (z3 i hi).2.2.1 hS hown (G.1 _ am_s4 _) (fun x h => h) dJ0_length_8abf5_1 ?_
  refine va_tlen hx hb (z3 i hi).2.2.2 hS rfl dJ0_length_8abf5_4 ?_
  refine lv_aload_n hx hb dJ0_length_8abf5_5 rfl (lv_at hl 0 rfl) ?_
  obtain ⟨cellB, c1, c2, c3, -⟩ := (z3 i hi).1
  refine am_call (ig := .invokevirtual 335) (rest := [.int (Int32.ofNat (am_sl i))]) (fun T hT X => am_invV (cc := cJ0_coder_7d493) (maxL := 1) (ret := some .byte) (hh := []) X hx hown (Or.inl (G.1 _ am_s5 _)) (G.1 _ am_s6 _) (G.1 _ am_s7 _) (G.1 _ am_s11 _) (by decide +kernel) (by rw [hT]; exact c1) c2 c3 rfl (argsL := []) (fun sig h => by
      have h9 : parseMethodDescriptor yJ0_coder_7d493.desc = some ⟨[], some .byte⟩ := by decide +kernel
      rw [h9] at h; cases h; rfl) rfl (by rw [hb]; exact dJ0_length_8abf5_6))
    (am_coder (E := E) (B := B) (D := D) (dA := dA) (xs := xs) (b := b) i hi H0) (Nat.le_refl _) (by decide) rfl (by rw [hml]; exact hl.1) (by rw [hb]; exact dJ0_length_8abf5_6) (lv_room (Nat.le_of_ble_eq_true rfl))
    (fun U hW => am_warm (args := #[]) am_s11.2 hW (G.1 _ am_s11 _)) (fun U hW => am_warm (args := #[]) am_s3.2 hW (G.1 _ am_s3 _)) (Nat.le_refl _) (Nat.le_refl _)
    (fun U g' mk hU hW => ⟨rfl, am_calling G hS hU hW g' mk _, hU.trans hH⟩) (fun v t L hq hL => ?_) (fun q t L hq hL => by cases hq.1)
  cases hq.1
  refine lv_ishr hx hb dJ0_length_8abf5_9 ?_
  rw [show Int32.ofNat (am_sl i) >>> ((0 : Int32) &&& 31) = Int32.ofNat (am_sl i) from sb_shr0 _]
  exact am_mono (W.iret (Qc := fun _ _ o t => o = .returned (some (.int (Int32.ofNat (am_sl i)))) ∧ t.heap = H0) hx hb hr (fun t' ht _ => ⟨rfl, ht.trans hq.2⟩) (fun q hq9 => hL q (by simpa using hq9)) dJ0_length_8abf5_10 hlk) (fun t ht => am_ofMQ (fun o t h => h) ht)
end AmEnds
end
section
/-! String.charAt of a constant -/
set_option maxRecDepth 100000 in
theorem am_chr8 : ∀ i, i < 33 → ∀ j, j < am_sl i → (((am_sB.getD i []).getD j 0 &&& 255).toUInt32 % 65536).toInt32 = (am_sB.getD i []).getD j 0 := by decide +kernel
set_option maxRecDepth 100000 in
theorem am_chr9 : ∀ i, i < 33 → ∀ j, j < am_sl i → narrow .char (.int ((am_sB.getD i []).getD j 0)) = .int ((am_sB.getD i []).getD j 0) := by decide +kernel
set_option maxRecDepth 100000 in
theorem am_slmax : ∀ i, i < 33 → am_sl i < 2 ^ 31 := by decide +kernel
theorem am_sl_len' (vs : List Value) : (lg_sl vs).length = am_sum vs := by
  induction vs with
  | nil => rfl
  | cons v t ih =>
    have h1 : lg_sl (v :: t) = (if v.category = 2 then [.val v, .second] else [.val v]) ++ lg_sl t := by simp [lg_sl]
    rw [h1, List.length_append, ih]
    show _ = ((v :: t).map fun v => v.category).sum
    rw [List.map_cons, List.sum_cons]
    rcases lv_cat v with h | h
    · rw [if_neg (by omega), h]; rfl
    · rw [if_pos h, h]; rfl
section AmCallW
variable {p : Program} {l : Launch} {e : Env} {R : Room} {s : State} {m : MethodId} {args : Array Value} {below : List Frame} {meth : Method} {c : Code} {H : Heap} {locs : List Loc} {cells slots : Nat} {Q : State → Prop}
/-- A CALL -/
theorem am_callW {y : MethodName} {cc : ByteArray} {maxL : Nat} {ret : Option FieldType} {hh : List (Nat × Nat × Nat × Nat)} {rm : Room} {Pc : Array Value → State → Prop} {Qc : Outcome → State → Prop} {B : Nat} {g : JFrame} {rest : List Value} {a : Array Value} {ig : Instr}
    (inv : ∀ T : State, T.heap = H → Stand p l e R s m args below meth c T locs cells slots → am_inv p l e R s m args below meth c T locs cells slots g rest y a)
    (hM : am_Met l y (am_cw y cc maxL ret hh) rm Pc Qc B) (hframes : rm.frames + 1 ≤ R.frames) (hlocals : 8 + (maxL + 11) + rm.locals ≤ R.locals)
    (hg : g.method = m) (hsize : g.locals.size = c.maxLocals) (hdg : decode c.code g.pc = .ok (ig, 3)) (hW : 2 * g.monitorRoom + (rest.map fun v => v.category).sum ≤ 8)
    (hcw : ∀ U : State, s.WarmedH U.vm → (am_cw y cc maxL ret hh).before a U = true) (hini : ∀ U : State, s.WarmedH U.vm → (Cond.initialized y.cls).before a U = true)
    (h4 : cells + rm.cells ≤ R.cells) (h5 : slots + rm.slots ≤ R.slots) (hPc : ∀ (U : State) (g' : JFrame) (mk : MethodId), U.heap = H → s.WarmedH U.vm → Pc a (U.calling g' mk a))
    (kr : ∀ (v : Option Value) (t : State) (L : List Loc), Qc (.returned v) t → s.WarmedH t.vm → (∀ z ∈ L, B ≤ z.base) → W p l e R s m args below meth c t.heap (locs ++ L) (cells + rm.cells) (slots + rm.slots) Q { g with pc := g.pc + 3, stack := v.toList ++ rest })
    (kx : ∀ (q : Addr) (t : State) (L : List Loc), Qc (.threw q) t → s.WarmedH t.vm → (∀ z ∈ L, B ≤ z.base) → am_X p l e R s m args below meth c t.heap (locs ++ L) (cells + rm.cells) (slots + rm.slots) Q { g with stack := rest } q) :
    W p l e R s m args below meth c H locs cells slots Q g := by
  intro T hT X
  obtain ⟨vm₁, mk, X₁, hn, st⟩ := inv T hT X
  obtain ⟨o, t, L, X2, hL, hq, h⟩ := am_back (W9 := 8) (len := 3) hM hframes hlocals X₁ (g := { g with stack := rest }) (ig := ig) (mk := mk) (a := a) hg hsize hdg hW hn (hcw _ X₁.warmed) (hini _ X₁.warmed) h4 h5 (hPc _ _ _ hT X₁.warmed)
  rcases h with ⟨v, rfl, hs⟩ | ⟨q, rfl, hs⟩
  · obtain ⟨t2, a1, b1⟩ := kr v t L hq X2.warmed hL (am_beh (T.setVm vm₁) t) rfl X2
    exact ⟨t2, st _ (hs.trans a1), b1⟩
  · obtain ⟨t2, a1, b1⟩ := kx q t L hq X2.warmed hL (am_beh (T.setVm vm₁) t) rfl X2
    exact ⟨t2, st _ (hs.trans a1), b1⟩
end AmCallW
section AmChar
variable {l : Launch} {B : Nat} {D : va_G} {dA : Nat → ClassId} {E : aE} {xs : aX} {b : Nat}
set_option maxRecDepth 100000 in
set_option maxHeartbeats 4000000 in
theorem am_isLatin1 (i : Nat) (hi : i < am_sn) (H0 : Heap) : am_Met l yJ0_isLatin1_aae02 (am_cw yJ0_isLatin1_aae02 cJ0_isLatin1_aae02 1 (some .boolean) []) { frames := 0, cells := 0, slots := 0, locals := 0 } (fun a U => a = ([Value.ref (E.1 (1000000 + i))] : List Value).toArray ∧ am_G B D dA E xs b U ∧ U.heap = H0) (fun o t => o = .returned (some (.int 1)) ∧ t.heap = H0) B := by
  refine am_ofW (by decide +kernel) ?_
  intro p e s m args below meth c hx hb hml hr hlk htb hme hnm hP
  obtain ⟨rfl, G, hH⟩ := hP
  have hown : s.vm.findClass RJ0 = some m.cls := findClass_of_methodNamed hnm
  have hl := lv_entry ([.ref (E.1 (1000000 + i))]) (n := 1) (Nat.le_of_ble_eq_true rfl)
  rw [lg_entry_eq]
  generalize (lg_sl ([.ref (E.1 (1000000 + i))]) ++ List.replicate (1 - (lg_sl ([.ref (E.1 (1000000 + i))])).length) Slot.unset).toArray = ls at hl ⊢
  have hl : lv_has ls 1 [(0, .ref (E.1 (1000000 + i)))] := hl
  have hS : va_S (am_A B) s.heap s.heap [] := va_S.rf
  obtain ⟨z1, -, adV, z3⟩ := G.2.2.2.2.2.2.2.2.2.2.1
  refine va_gets hx hb z1 hS hown (G.1 _ am_s8 _) (fun x h => h) dJ0_isLatin1_aae02_0 ?_
  refine lv_if_eq (tgt := 17) hx hb dJ0_isLatin1_aae02_3 (by decide) (fun h9 => absurd h9 (by decide)) (fun _ => ?_)
  refine lv_aload_n hx hb dJ0_isLatin1_aae02_6 rfl (lv_at hl 0 rfl) ?_
  refine vk_getf hx hb (z3 i hi).2.1 hS hown (G.1 _ am_s9 _) (fun x h => h) dJ0_isLatin1_aae02_7 ?_
  refine lv_if_ne (tgt := 17) hx hb dJ0_isLatin1_aae02_10 (by decide) (fun h9 => absurd rfl h9) (fun _ => ?_)
  refine lv_iconst hx hb dJ0_isLatin1_aae02_13 rfl ?_
  refine lv_goto (tgt := 18) hx hb dJ0_isLatin1_aae02_14 (by decide) ?_
  exact am_mono (W.zret (Qc := fun _ _ o t => o = .returned (some (.int 1)) ∧ t.heap = H0) hx hb hr rfl (fun t ht _ => ⟨rfl, ht.trans hH⟩) (fun q hq => nomatch hq) dJ0_isLatin1_aae02_18 hlk) (fun t ht => am_ofMQ (fun o t h => h) ht)
-- Preconditions.checkIndex, within
set_option maxRecDepth 100000 in
set_option maxHeartbeats 4000000 in
theorem am_pci (j n : Int32) (v : Value) (hv : v.category = 1) (h0 : ¬ j < 0) (h1 : j < n) (H0 : Heap) : am_Met l yJ3_checkIndex_8e157 (am_cw yJ3_checkIndex_8e157 cJ3_checkIndex_8e157 3 (some .int) []) { frames := 0, cells := 0, slots := 0, locals := 0 } (fun a U => a = ([.int j, .int n, v] : List Value).toArray ∧ U.heap = H0) (fun o t => o = .returned (some (.int j)) ∧ t.heap = H0) B := by
  refine am_ofW (by decide +kernel) ?_
  intro p e s m args below meth c hx hb hml hr hlk htb hme hnm hP
  obtain ⟨rfl, hH⟩ := hP
  have hl := lv_entry ([.int j, .int n, v]) (n := 3) (by rw [am_sl_len']; show 1 + (1 + (v.category + 0)) ≤ 3; omega)
  rw [lg_entry_eq]
  generalize (lg_sl ([.int j, .int n, v]) ++ List.replicate (3 - (lg_sl ([.int j, .int n, v])).length) Slot.unset).toArray = ls at hl ⊢
  have hl : lv_has ls 3 [(0, .int j), (1, .int n), (2, v)] := hl
  refine lv_iload_n hx hb dJ3_checkIndex_8e157_0 rfl (lv_at hl 0 rfl) ?_
  refine lv_if_lt (tgt := 9) hx hb dJ3_checkIndex_8e157_1 (by decide) (fun h9 => absurd h9 h0) (fun _ => ?_)
  refine lv_iload_n hx hb dJ3_checkIndex_8e157_4 rfl (lv_at hl 0 rfl) ?_
  refine lv_iload_n hx hb dJ3_checkIndex_8e157_5 rfl (lv_at hl 1 rfl) ?_
  refine lv_icmp_lt (tgt := 16) hx hb dJ3_checkIndex_8e157_6 (by decide) (fun _ => ?_) (fun h9 => absurd h1 h9)
  refine lv_iload_n hx hb dJ3_checkIndex_8e157_16 rfl (lv_at hl 0 rfl) ?_
  exact am_mono (W.iret (Qc := fun _ _ o t => o = .returned (some (.int j)) ∧ t.heap = H0) hx hb hr (fun t ht _ => ⟨rfl, ht.trans hH⟩) (fun q hq => nomatch hq) dJ3_checkIndex_8e157_17 hlk) (fun t ht => am_ofMQ (fun o t h => h) ht)
set_option maxRecDepth 100000 in
set_option maxHeartbeats 4000000 in
theorem am_sci0 (j n : Int32) (h0 : ¬ j < 0) (h1 : j < n) (H0 : Heap) : am_Met l yJ0_checkIndex_df160 (am_cw yJ0_checkIndex_df160 cJ0_checkIndex_df160 2 none []) { frames := 1, cells := 0, slots := 0, locals := 30 } (fun a U => a = ([.int j, .int n] : List Value).toArray ∧ am_G B D dA E xs b U ∧ U.heap = H0) (fun o t => o = .returned none ∧ t.heap = H0) B := by
  refine am_ofW (by decide +kernel) ?_
  intro p e s m args below meth c hx hb hml hr hlk htb hme hnm hP
  obtain ⟨rfl, G, hH⟩ := hP
  have hown : s.vm.findClass RJ0 = some m.cls := findClass_of_methodNamed hnm
  have hl := lv_entry ([.int j, .int n]) (n := 2) (Nat.le_of_ble_eq_true rfl)
  rw [lg_entry_eq]
  generalize (lg_sl ([.int j, .int n]) ++ List.replicate (2 - (lg_sl ([.int j, .int n])).length) Slot.unset).toArray = ls at hl ⊢
  have hl : lv_has ls 2 [(0, .int j), (1, .int n)] := hl
  have hS : va_S (am_A B) s.heap s.heap [] := va_S.rf
  have go : ∀ v : Value, v.category = 1 → va_Z "jdk/internal/util/Preconditions" "SIOOBE_FORMATTER" "Ljava/util/function/BiFunction;" v (am_A B) s s.heap → W p l e { frames := 1, cells := 0, slots := 0, locals := 30 } s m ([.int j, .int n] : List Value).toArray below meth c s.heap [] 0 0 (am_MQ below (fun o t => o = .returned none ∧ t.heap = H0) 0 0 B ([.int j, .int n] : List Value).toArray s) (F0 m 0 ls []) := by
    intro v hv hZ
    refine lv_iload_n hx hb dJ0_checkIndex_df160_0 rfl (lv_at hl 0 rfl) ?_
    refine lv_iload_n hx hb dJ0_checkIndex_df160_1 rfl (lv_at hl 1 rfl) ?_
    refine va_gets hx hb hZ hS hown (G.1 _ am_SF _) (fun x h => h) dJ0_checkIndex_df160_2 ?_
    refine am_call (ig := .invokestatic 1059) (rest := []) (fun T hT X => am_invS (cc := cJ3_checkIndex_8e157) (maxL := 3) (ret := some .int) (hh := []) X hx hown (Or.inl (G.1 _ am_PCl _)) (G.1 _ am_PCs _) (G.1 _ am_PCn _) (G.1 _ am_PCc _) (by decide +kernel) rfl (argsL := [.int j, .int n, v]) (fun sig h => by
        have h9 : parseMethodDescriptor yJ3_checkIndex_8e157.desc = some ⟨[.int, .int, .object "java/util/function/BiFunction"], some .int⟩ := by decide +kernel
        rw [h9] at h; cases h; rfl) rfl (by rw [hb]; exact dJ0_checkIndex_df160_5))
      (am_pci (B := B) j n v hv h0 h1 H0) (Nat.le_refl _) (by decide) rfl (by rw [hml]; exact hl.1) (by rw [hb]; exact dJ0_checkIndex_df160_5) (lv_room (Nat.le_of_ble_eq_true rfl))
      (fun U hW => am_warm (args := #[]) am_PCc.2 hW (G.1 _ am_PCc _)) (fun U hW => am_warm (args := #[]) am_PCn.2 hW (G.1 _ am_PCn _)) (Nat.le_refl _) (Nat.le_refl _)
      (fun U g' mk hU hW => ⟨rfl, hU.trans hH⟩) (fun v2 t L hq hL => ?_) (fun q t L hq hL => by cases hq.1)
    cases hq.1
    refine lv_pop hx hb dJ0_checkIndex_df160_8 rfl ?_
    exact am_mono (W.vret (Qc := fun _ _ o t => o = .returned none ∧ t.heap = H0) hx hb hr (fun t' ht _ => ⟨rfl, ht.trans hq.2⟩) (fun q hq9 => hL q (by simpa using hq9)) dJ0_checkIndex_df160_9 hlk) (fun t ht => am_ofMQ (fun o t h => h) ht)
  rcases G.2.2.2.2.2.2.2.2.2.2.2.2 with h9 | ⟨t, h9⟩
  · exact go _ rfl h9
  · exact go _ rfl h9
set_option maxRecDepth 100000 in
set_option maxHeartbeats 4000000 in
theorem am_lchar (i : Nat) (hi : i < am_sn) (av : Nat) (j : Int32) (h0 : ¬ j < 0) (h1 : j.toNatClampNeg < am_sl i) (H0 : Heap) : am_Met l yJ1_charAt_3b067 (am_cw yJ1_charAt_3b067 cJ1_charAt_3b067 2 (some .char) []) { frames := 2, cells := 0, slots := 0, locals := 60 } (fun a U => a = ([.ref av, .int j] : List Value).toArray ∧ am_G B D dA E xs b U ∧ U.heap = H0 ∧ va_T .byte av (am_sl i) (fun j => .int ((am_sB.getD i []).getD j 0)) (am_A B) U U.heap) (fun o t => o = .returned (some (.int ((am_sB.getD i []).getD j.toNatClampNeg 0))) ∧ t.heap = H0) B := by
  refine am_ofW (by decide +kernel) ?_
  intro p e s m args below meth c hx hb hml hr hlk htb hme hnm hP
  obtain ⟨rfl, G, hH, hT9⟩ := hP
  have hown : s.vm.findClass RJ1 = some m.cls := findClass_of_methodNamed hnm
  have hl := lv_entry ([.ref av, .int j]) (n := 2) (Nat.le_of_ble_eq_true rfl)
  rw [lg_entry_eq]
  generalize (lg_sl ([.ref av, .int j]) ++ List.replicate (2 - (lg_sl ([.ref av, .int j])).length) Slot.unset).toArray = ls at hl ⊢
  have hl : lv_has ls 2 [(0, .ref av), (1, .int j)] := hl
  have hS : va_S (am_A B) s.heap s.heap [] := va_S.rf
  have hlt : j < Int32.ofNat (am_sl i) := by
    rw [Int32.lt_iff_toInt_lt, Int32.toInt_ofNat_small (am_slmax i hi)]
    have hz0 : (0 : Int) ≤ j.toInt := by
      have := Int32.not_lt.mp h0
      simpa using Int32.le_iff_toInt_le.mp this
    have : j.toInt = ((j.toInt.toNat : Nat) : Int) := by omega
    rw [this]
    exact Int.ofNat_lt.mpr h1
  refine lv_iload_n hx hb dJ1_charAt_3b067_0 rfl (lv_at hl 1 rfl) ?_
  refine lv_aload_n hx hb dJ1_charAt_3b067_1 rfl (lv_at hl 0 rfl) ?_
  refine va_tlen hx hb hT9 hS rfl dJ1_charAt_3b067_2 ?_
  refine am_call (ig := .invokestatic 9) (rest := []) (fun T hT X => am_invS (cc := cJ0_checkIndex_df160) (maxL := 2) (ret := none) (hh := []) X hx hown (Or.inl (G.1 _ am_CIl _)) (G.1 _ am_CIs _) (G.1 _ am_s3 _) (G.1 _ am_CIc _) (by decide +kernel) rfl (argsL := [.int j, .int (Int32.ofNat (am_sl i))]) (fun sig h => by
      have h9 : parseMethodDescriptor yJ0_checkIndex_df160.desc = some ⟨[.int, .int], none⟩ := by decide +kernel
      rw [h9] at h; cases h; rfl) rfl (by rw [hb]; exact dJ1_charAt_3b067_3))
    (am_sci0 (B := B) (D := D) (dA := dA) (E := E) (xs := xs) (b := b) j (Int32.ofNat (am_sl i)) h0 hlt H0) (Nat.le_refl _) (by decide) rfl (by rw [hml]; exact hl.1) (by rw [hb]; exact dJ1_charAt_3b067_3) (lv_room (Nat.le_of_ble_eq_true rfl))
    (fun U hW => am_warm (args := #[]) am_CIc.2 hW (G.1 _ am_CIc _)) (fun U hW => am_warm (args := #[]) am_s3.2 hW (G.1 _ am_s3 _)) (Nat.le_refl _) (Nat.le_refl _)
    (fun U g' mk hU hW => ⟨rfl, am_calling G hS hU hW g' mk _, hU.trans hH⟩) (fun v2 t L hq hL => ?_) (fun q t L hq hL => by cases hq.1)
  cases hq.1
  have hS2 : va_S (am_A B) s.heap t.heap ([] ++ L) := ⟨by rw [hq.2, hH]; exact Nat.le_refl _, fun q _ _ => by rw [hq.2, hH], fun z hz => hL z (by simpa using hz)⟩
  refine lv_aload_n hx hb dJ1_charAt_3b067_6 rfl (lv_at hl 0 rfl) ?_
  refine lv_iload_n hx hb dJ1_charAt_3b067_7 rfl (lv_at hl 1 rfl) ?_
  refine va_tb hx hb hT9 hS2 (fun q => q.elim h0 (fun q => Nat.not_lt.mpr q h1)) rfl dJ1_charAt_3b067_8 ?_
  refine lv_sipush hx hb dJ1_charAt_3b067_9 rfl ?_
  refine lv_iand hx hb dJ1_charAt_3b067_12 ?_
  refine lv_i2c hx hb dJ1_charAt_3b067_13 (am_chr8 i hi _ h1) ?_
  exact am_mono (W.zret (Qc := fun _ _ o t => o = .returned (some (.int ((am_sB.getD i []).getD j.toNatClampNeg 0))) ∧ t.heap = H0) hx hb hr (am_chr9 i hi _ h1) (fun t' ht _ => ⟨rfl, ht.trans hq.2⟩) hS2.2.2 dJ1_charAt_3b067_14 hlk) (fun t ht => am_ofMQ (fun o t h => h) ht)
set_option maxRecDepth 100000 in
set_option maxHeartbeats 4000000 in
theorem am_charAt (i : Nat) (hi : i < am_sn) (j : Int32) (h0 : ¬ j < 0) (h1 : j.toNatClampNeg < am_sl i) (H0 : Heap) : am_Met l yJ0_charAt_5068e (am_cw yJ0_charAt_5068e cJ0_charAt_5068e 2 (some .char) []) { frames := 4, cells := 0, slots := 0, locals := 120 } (fun a U => a = ([Value.ref (E.1 (1000000 + i)), .int j] : List Value).toArray ∧ am_G B D dA E xs b U ∧ U.heap = H0) (fun o t => o = .returned (some (.int ((am_sB.getD i []).getD j.toNatClampNeg 0))) ∧ t.heap = H0) B := by
  refine am_ofW (by decide +kernel) ?_
  intro p e s m args below meth c hx hb hml hr hlk htb hme hnm hP
  obtain ⟨rfl, G, hH⟩ := hP
  have hown : s.vm.findClass RJ0 = some m.cls := findClass_of_methodNamed hnm
  have hl := lv_entry ([.ref (E.1 (1000000 + i)), .int j]) (n := 2) (Nat.le_of_ble_eq_true rfl)
  rw [lg_entry_eq]
  generalize (lg_sl ([.ref (E.1 (1000000 + i)), .int j]) ++ List.replicate (2 - (lg_sl ([.ref (E.1 (1000000 + i)), .int j])).length) Slot.unset).toArray = ls at hl ⊢
  have hl : lv_has ls 2 [(0, .ref (E.1 (1000000 + i))), (1, .int j)] := hl
  have hS : va_S (am_A B) s.heap s.heap [] := va_S.rf
  obtain ⟨z1, -, adV, z3⟩ := id G.2.2.2.2.2.2.2.2.2.2.1
  obtain ⟨cellB, c1, c2, c3, -⟩ := (z3 i hi).1
  refine lv_aload_n hx hb dJ0_charAt_5068e_0 rfl (lv_at hl 0 rfl) ?_
  refine am_call (ig := .invokevirtual 492) (rest := []) (fun T hT X => am_invV (cc := cJ0_isLatin1_aae02) (maxL := 1) (ret := some .boolean) (hh := []) X hx hown (Or.inl (G.1 _ am_ILl _)) (G.1 _ am_ILi _) (G.1 _ am_ILs _) (G.1 _ am_ILc _) (by decide +kernel) (by rw [hT]; exact c1) c2 c3 rfl (argsL := []) (fun sig h => by
      have h9 : parseMethodDescriptor yJ0_isLatin1_aae02.desc = some ⟨[], some .boolean⟩ := by decide +kernel
      rw [h9] at h; cases h; rfl) rfl (by rw [hb]; exact dJ0_charAt_5068e_1))
    (am_isLatin1 (E := E) (B := B) (D := D) (dA := dA) (xs := xs) (b := b) i hi H0) (by decide) (by decide) rfl (by rw [hml]; exact hl.1) (by rw [hb]; exact dJ0_charAt_5068e_1) (lv_room (Nat.le_of_ble_eq_true rfl))
    (fun U hW => am_warm (args := #[]) am_ILc.2 hW (G.1 _ am_ILc _)) (fun U hW => am_warm (args := #[]) am_s3.2 hW (G.1 _ am_s3 _)) (Nat.le_refl _) (Nat.le_refl _)
    (fun U g' mk hU hW => ⟨rfl, am_calling G hS hU hW g' mk _, hU.trans hH⟩) (fun v t L hq hL => ?_) (fun q t L hq hL => by cases hq.1)
  cases hq.1
  have hS2 : va_S (am_A B) s.heap t.heap ([] ++ L) := ⟨by rw [hq.2, hH]; exact Nat.le_refl _, fun q _ _ => by rw [hq.2, hH], fun z hz => hL z (by simpa using hz)⟩
  refine lv_if_eq (tgt := 16) hx hb dJ0_charAt_5068e_4 rfl (fun h9 => absurd h9 (by decide)) (fun _ => ?_)
  refine lv_aload_n hx hb dJ0_charAt_5068e_7 rfl (lv_at hl 0 rfl) ?_
  refine vk_getf hx hb (z3 i hi).2.2.1 hS2 hown (G.1 _ am_s4 _) (fun x h => h) dJ0_charAt_5068e_8 ?_
  refine lv_iload_n hx hb dJ0_charAt_5068e_11 rfl (lv_at hl 1 rfl) ?_
  refine am_callW (ig := .invokestatic 495) (rest := []) (fun T hT X => am_invS (cc := cJ1_charAt_3b067) (maxL := 2) (ret := some .char) (hh := []) X hx hown (Or.inl (G.1 _ am_LCl _)) (G.1 _ am_LCs _) (G.1 _ am_LCn _) (G.1 _ am_LCc _) (by decide +kernel) rfl (argsL := [.ref (adV i), .int j]) (fun sig h => by
      have h9 : parseMethodDescriptor yJ1_charAt_3b067.desc = some ⟨[.array .byte, .int], some .char⟩ := by decide +kernel
      rw [h9] at h; cases h; rfl) rfl (by rw [hb]; exact dJ0_charAt_5068e_12))
    (am_lchar (E := E) (B := B) (D := D) (dA := dA) (xs := xs) (b := b) i hi (adV i) j h0 h1 H0) (by decide) (by decide) rfl (by rw [hml]; exact hl.1) (by rw [hb]; exact dJ0_charAt_5068e_12) (lv_room (Nat.le_of_ble_eq_true rfl))
    (fun U hW => am_warm (args := #[]) am_LCc.2 hW (G.1 _ am_LCc _)) (fun U hW => am_warm (args := #[]) am_LCn.2 hW (G.1 _ am_LCn _)) (Nat.le_refl _) (Nat.le_refl _)
    (fun U g' mk hU hW => ⟨rfl, am_calling G hS2 hU hW g' mk _, hU.trans hq.2, ?_⟩) (fun v t2 L2 hq2 hW2 hL2 => ?_) (fun q t L hq hW2 hL => by cases hq.1)
  · refine va_T.moved (u := s) (U := U.calling g' mk _) hW.alike ((z3 i hi).2.2.2.kept (fun q h1 h2 => ?_))
    show U.heap[q]? = _
    rw [hU]; exact hS2.2.1 q h1 h2
  · cases hq2.1
    exact am_mono (W.zret (Qc := fun _ _ o t => o = .returned (some (.int ((am_sB.getD i []).getD j.toNatClampNeg 0))) ∧ t.heap = H0) hx hb hr (am_chr9 i hi _ h1) (fun t' ht _ => ⟨rfl, ht.trans hq2.2⟩) (fun z hz => by
      rcases List.mem_append.mp hz with h9 | h9
      · exact hS2.2.2 z h9
      · exact hL2 z h9) dJ0_charAt_5068e_15 hlk) (fun t ht => am_ofMQ (fun o t h => h) ht)
end AmChar
end
section
/-! THE MAIN THEOREM: what the abstract machine comes to, the machine comes to -/
def am_Oc (B : Nat) (D : va_G) (dA : Nat → ClassId) (E : aE) (H0 : Heap) (o : Option Value ⊕ Nat) (h' : aH) : Outcome → State → Prop := fun oc t =>
  am_Rel B D dA E h' t.heap ∧ H0.size ≤ t.heap.size ∧ (∀ q : Nat, q < B → t.heap[q]? = H0[q]?) ∧ match o with
    | .inl v => oc = .returned (v.map (am_tv E))
    | .inr x => oc = .threw (B + (h'.length - 1)) ∧ ∃ ce : Cell, t.heap[B + (h'.length - 1)]? = some ce ∧ ce.vm = .none ∧ t.vm.findClass (am_xn x) = some ce.cls
def am_End (below : List Frame) (s : State) (B : Nat) (Qc : Outcome → State → Prop) (mc ms : Nat) (Q : State → Prop) : Prop :=
  ∀ (t : State) (o : Outcome) (L : List Loc), t.status = .running → Ended t below o → Qc o t → ((∃ v, o = .returned v) ∨ ∃ q, o = .threw q) → s.WarmedH t.vm → s.sameButNew ({ t with vm := s.vm } : State) L mc ms → (∀ z ∈ L, B ≤ z.base) → Q t
def am_rm (d k j : Nat) : Room := { frames := d + 8, locals := 60 * d + 200, cells := k, slots := j }
def am_kj : aN ⊕ aR → Nat × Nat
  | .inl n => (n.2.2.2.2.1, n.2.2.2.2.2)
  | .inr u => (u.2.2.1, u.2.2.2)
def am_vI : Nat → Nat → Instr := fun kind idx => match kind with
  | 0 => .invokestatic idx
  | 1 => .invokevirtual idx
  | _ => .invokespecial idx
theorem am_sl_len (vs : List Value) : (lg_sl vs).length = am_sum vs := by
  induction vs with
  | nil => rfl
  | cons v t ih =>
    have h1 : lg_sl (v :: t) = (if v.category = 2 then [.val v, .second] else [.val v]) ++ lg_sl t := by simp [lg_sl]
    rw [h1, List.length_append, ih]
    show _ = ((v :: t).map fun v => v.category).sum
    rw [List.map_cons, List.sum_cons]
    rcases lv_cat v with h | h
    · rw [if_neg (by omega), h]; rfl
    · rw [if_pos h, h]; rfl
theorem am_sum_tv (E : aE) (vs : List Value) : am_sum (vs.map (am_tv E)) = am_sum vs := by
  unfold am_sum
  rw [List.map_map]
  congr 1
  apply List.map_congr_left
  intro v _
  exact am_cat E v
theorem am_args_tv (E : aE) : ∀ (vs : List Value) (i : Nat), lv_args i (vs.map (am_tv E)) = am_lm E (lv_args i vs)
  | [], _ => rfl
  | v :: t, i => by
    show (i, am_tv E v) :: lv_args (if (am_tv E v).category = 2 then i + 2 else i + 1) (t.map (am_tv E)) = (i, am_tv E v) :: am_lm E (lv_args (if v.category = 2 then i + 2 else i + 1) t)
    rw [am_cat, am_args_tv E t]
theorem am_hand_none {o pc x : Nat} : ∀ {hh : List (Nat × Nat × Nat × Nat)}, am_hand o pc x hh = some none → ∀ y ∈ am_tb hh, covers y pc = false
  | [], _, y, hy => by cases hy
  | a :: t, h, y, hy => by
    unfold am_hand at h
    split at h
    · rename_i h9
      rcases List.mem_cons.mp hy with rfl | hy
      · show (decide (a.1 ≤ pc) && decide (pc < a.2.1)) = false
        rw [← h9]
        congr 1
        · rw [Bool.eq_iff_iff]; simp
        · rw [Bool.eq_iff_iff]; simp
      · exact am_hand_none h y hy
    · split at h
      · cases h
      · split at h
        · cases h
        · split at h
          · cases h
          · split at h
            · cases h
            · split at h
              · cases h
              · cases h
theorem am_hand_some {o pc x hp : Nat} : ∀ {hh : List (Nat × Nat × Nat × Nat)}, am_hand o pc x hh = some (some hp) → ∃ (pre : List ExceptionTableEntry) (z : ExceptionTableEntry) (suf : List ExceptionTableEntry), am_tb hh = pre ++ z :: suf ∧
    (∀ y ∈ pre, covers y pc = false ∨ (y.catchType ≠ 0 ∧ ∃ yn, am_in (.classLink (am_R o) y.catchType (am_xn yn)) ∧ x < 4 ∧ yn < 4 ∧ x ≠ yn)) ∧ covers z pc = true ∧ z.catchType ≠ 0 ∧ am_in (.classLink (am_R o) z.catchType (am_xn x)) ∧ z.handlerPc = hp
  | [], h => by cases h
  | a :: t, h => by
    have hcv : covers { startPc := a.1, endPc := a.2.1, handlerPc := a.2.2.1, catchType := a.2.2.2 } pc = (Nat.ble a.1 pc && Nat.blt pc a.2.1) := by
      show (decide (a.1 ≤ pc) && decide (pc < a.2.1)) = _
      congr 1
      · rw [Bool.eq_iff_iff]; simp
      · rw [Bool.eq_iff_iff]; simp
    unfold am_hand at h
    split at h
    · rename_i h9
      obtain ⟨pre, z, suf, h1, h2, h3⟩ := am_hand_some h
      refine ⟨_ :: pre, z, suf, by show _ :: am_tb t = _; rw [h1]; rfl, fun y hy => ?_, h3⟩
      rcases List.mem_cons.mp hy with rfl | hy
      · exact Or.inl (hcv.trans h9)
      · exact h2 y hy
    · rename_i h9
      split at h
      · cases h
      · rename_i h0
        have h0' : a.2.2.2 ≠ 0 := fun q => by rw [q] at h0; cases h0
        split at h
        · cases h
        · rename_i y hlook
          have hin := am_hc_ok _ (am_look2_mem hlook)
          split at h
          · rename_i h8
            cases h
            cases (Nat.eq_of_beq_eq_true h8 : y = x)
            exact ⟨[], _, am_tb t, rfl, fun y hy => (nomatch hy), hcv.trans h9, h0', hin, rfl⟩
          · rename_i h8
            split at h
            · cases h
            · rename_i h7
              split at h
              · rename_i g hg
                cases h
                obtain ⟨pre, z, suf, h1, h2, h3⟩ := am_hand_some hg
                simp only [Bool.and_eq_true] at h7
                refine ⟨_ :: pre, z, suf, by show _ :: am_tb t = _; rw [h1]; rfl, fun y' hy => ?_, h3⟩
                rcases List.mem_cons.mp hy with rfl | hy
                · exact Or.inr ⟨h0', y, hin, by simpa using h7.1, by simpa using h7.2, fun q => by rw [q, Nat.beq_refl] at h8; cases h8⟩
                · exact h2 y' hy
              · cases h
section AmMain
variable {p : Program} {l : Launch} {e : Env} {R : Room} {s : State} {m : MethodId} {args : Array Value} {below : List Frame} {meth : Method} {c : Code} {H : Heap} {locs : List Loc} {cells slots : Nat} {Q : State → Prop}
variable {r : aM} {B : Nat} {D : va_G} {dA : Nat → ClassId} {E : aE} {xs : aX} {b : Nat} {pc : Nat} {ls : Array Slot} {L : aL} {S : List Value} {h : aH}
theorem am_ofEnd (hR : am_Rel B D dA E h H) (hS : va_S (am_A B) s.heap H locs) (hB : B ≤ s.heap.size) {v : Option Value} (hend : am_End below s B (am_Oc B D dA E s.heap (.inl v) h) cells slots Q) {t : State}
    (ht : MQ below (fun _ _ o t => o = .returned (v.map (am_tv E)) ∧ t.heap = H) args s cells slots (am_A B) t) : Q t := by
  obtain ⟨o, h1, h2, h3, L, ⟨h4, h5, h6⟩, h7⟩ := ht
  exact hend t o L h1 h2 ⟨by rw [h3.2]; exact hR, by rw [h3.2]; exact hS.1, fun q hq => by rw [h3.2]; exact hS.2.1 q (Nat.lt_of_lt_of_le hq hB) (Nat.not_le.mpr hq), h3.1⟩ (Or.inl h4) h5 h6 h7
theorem am_ri_ok (Cx : am_Cx r B D dA E xs b p l s m meth c) (hR : am_Rel B D dA E h H) (hS : va_S (am_A B) s.heap H locs) {v : Value} (hf : am_ri r.2.2.2.1 S = some v) (hd : decode r.2.1 pc = .ok (.ireturn, 1))
    (hend : am_End below s B (am_Oc B D dA E s.heap (.inl (some v)) h) cells slots Q) : W p l e R s m args below meth c H locs cells slots Q (F0 m pc ls (S.map (am_tv E))) := by
  obtain ⟨hx, hb, hml, hr, hlk, htb, hown, hnm, hst, hI, G, hB⟩ := Cx
  unfold am_ri at hf
  split at hf
  · rename_i u
    split at hf
    · rename_i ht
      split at hf
      · rename_i h9
        cases hf
        obtain ⟨x, hv⟩ := am_tvI (E := E) h9
        rw [List.map_cons, List.map_nil, hv]
        exact am_mono (W.iret (Qc := fun _ _ o t => o = .returned ((some v).map (am_tv E)) ∧ t.heap = H) hx hb (hr.trans ht) (fun t ht _ => ⟨by rw [Option.map_some, hv], ht⟩) hS.2.2 hd hlk) (fun t ht => am_ofEnd hR hS hB hend ht)
      · cases hf
    · rename_i ht
      split at hf
      · rename_i h9
        cases hf
        have hx9 : ∃ x : Int32, am_tv E v = .int x ∧ narrow .boolean (.int x) = .int x := by
          simp only [Bool.or_eq_true, decide_eq_true_eq] at h9
          rcases h9 with rfl | rfl
          · exact ⟨0, rfl, rfl⟩
          · exact ⟨1, rfl, rfl⟩
        obtain ⟨x, hv, hn⟩ := hx9
        rw [List.map_cons, List.map_nil, hv]
        exact am_mono (W.zret (Qc := fun _ _ o t => o = .returned ((some v).map (am_tv E)) ∧ t.heap = H) hx hb (hr.trans ht) hn (fun t ht _ => ⟨by rw [Option.map_some, hv], ht⟩) hS.2.2 hd hlk) (fun t ht => am_ofEnd hR hS hB hend ht)
      · cases hf
    · cases hf
  · cases hf
theorem am_ra_ok (Cx : am_Cx r B D dA E xs b p l s m meth c) (hR : am_Rel B D dA E h H) (hS : va_S (am_A B) s.heap H locs) {v : Value} (hf : am_ra r.2.2.2.1 S = some v) (hd : decode r.2.1 pc = .ok (.areturn, 1))
    (hend : am_End below s B (am_Oc B D dA E s.heap (.inl (some v)) h) cells slots Q) : W p l e R s m args below meth c H locs cells slots Q (F0 m pc ls (S.map (am_tv E))) := by
  obtain ⟨hx, hb, hml, hr, hlk, htb, hown, hnm, hst, hI, G, hB⟩ := Cx
  unfold am_ra at hf
  split at hf
  · rename_i u
    split at hf
    · rename_i n ht
      cases hf
      exact am_mono (W.aret (Qc := fun _ _ o t => o = .returned ((some (.ref u)).map (am_tv E)) ∧ t.heap = H) hx hb (hr.trans ht) (Or.inl ⟨_, rfl⟩) (Or.inr ⟨_, rfl⟩) (fun t ht _ => ⟨rfl, ht⟩) hS.2.2 hd hlk) (fun t ht => am_ofEnd hR hS hB hend ht)
    · cases hf
  · cases hf
theorem am_rv_ok (Cx : am_Cx r B D dA E xs b p l s m meth c) (hR : am_Rel B D dA E h H) (hS : va_S (am_A B) s.heap H locs) (hf : am_rv r.2.2.2.1 S = true) (hd : decode r.2.1 pc = .ok (.return_, 1))
    (hend : am_End below s B (am_Oc B D dA E s.heap (.inl none) h) cells slots Q) : W p l e R s m args below meth c H locs cells slots Q (F0 m pc ls (S.map (am_tv E))) := by
  obtain ⟨hx, hb, hml, hr, hlk, htb, hown, hnm, hst, hI, G, hB⟩ := Cx
  unfold am_rv at hf
  split at hf
  · split at hf
    · rename_i ht
      exact am_mono (W.vret (Qc := fun _ _ o t => o = .returned ((none : Option Value).map (am_tv E)) ∧ t.heap = H) hx hb (hr.trans ht) (fun t ht _ => ⟨rfl, ht⟩) hS.2.2 hd hlk) (fun t ht => am_ofEnd hR hS hB hend ht)
    · cases hf
  · cases hf
theorem am_thr_ok (Cx : am_Cx r B D dA E xs b p l s m meth c) (hR : am_Rel B D dA E h H) (hS : va_S (am_A B) s.heap H locs) (hl : lv_has ls r.2.2.1 (am_lm E L)) {ik x : Nat} (hf : am_thr r ik pc = some x) (hsum : am_sum S ≤ 8) (hd : decode r.2.1 pc = .ok (.new ik, 3))
    (hfr : 6 ≤ R.frames) (hlo : 200 ≤ R.locals) (hc : cells + 1 ≤ R.cells) (hs : slots + 6 ≤ R.slots)
    (hend : am_End below s B (am_Oc B D dA E s.heap (.inr x) (h ++ [none])) (cells + 1) (slots + 6) Q) : W p l e R s m args below meth c H locs cells slots Q (F0 m pc ls (S.map (am_tv E))) := by
  obtain ⟨hx, hb, hml, hr, hlk, htb, hown, hnm, hst, hI, G, hB⟩ := Cx
  unfold am_thr at hf
  split at hf
  · rename_i q hlook
    split at hf
    · rename_i h9
      cases hf
      simp only [Bool.and_eq_true, decide_eq_true_eq] at h9
      obtain ⟨⟨⟨d3, d4⟩, d7⟩, hemp⟩ := h9
      have hok := am_xw_ok _ (am_look2_mem hlook)
      have hemp' : r.2.2.2.2.2.1 = [] := List.isEmpty_iff.mp hemp
      have e3 : decode r.2.1 (pc + 3) = .ok (.dup, 1) := hI (pc + 3, .dup, 1) (am_look_mem d3)
      have e4 : decode r.2.1 (pc + 4) = .ok (.invokespecial q.1, 3) := hI (pc + 4, .invokespecial q.1, 3) (am_look_mem d4)
      have e7 : decode r.2.1 (pc + 7) = .ok (.athrow, 1) := hI (pc + 7, .athrow, 1) (am_look_mem d7)
      refine am_throw0 (own := am_R r.2.2.2.2.1) (cls := am_xn q.2) (names := am_up) (ik := ik) (ic := q.1) (A := am_A B) hx hb hst hown hok.2.2.1 (by decide +kernel) (G.1 _ hok.1 _) (G.1 _ hok.2.1 _) (fun w hw => G.1 _ (hok.2.2.2 w hw) _) (fun w hw => (hok.2.2.2 w hw).2)
        G.2.2.2.1 G.2.2.2.2.1 hS (by rw [hml]; exact hl.1) hd e3 e4 e7
        (fun y hy => by rw [htb, hemp'] at hy; cases hy) (by show 2 + 3 < _; omega) (by
          have h8 : ((S.map (am_tv E)).map fun v => v.category).sum = am_sum S := am_sum_tv E S
          rw [h8]; show _ + (13 * 3 + 42) ≤ _; omega) hc hs hlk ?_
      intro t ce t1 t2 t3 t4 t5 t6 t7 t8 t9
      have hlen : (h ++ [(none : Option aC)]).length - 1 = h.length := by rw [List.length_append]; rfl
      have hsz : B + ((h ++ [(none : Option aC)]).length - 1) = H.size := by rw [hlen, hR.1]
      refine hend t _ locs t1 t2 ⟨hR.push (c := none) t3 t4 (fun _ h => by cases h), by rw [t3]; exact Nat.le_trans hS.1 (Nat.le_succ _), fun q hq => ?_, ?_⟩ (Or.inr ⟨_, rfl⟩) t8 t9 hS.2.2
      · rw [t4 q (by rw [hR.1]; omega)]
        exact hS.2.1 q (Nat.lt_of_lt_of_le hq hB) (Nat.not_le.mpr hq)
      · rw [hsz]
        exact ⟨rfl, ce, t5, t6, by rw [t8.alike.findClass]; exact t7⟩
    · cases hf
  · cases hf
end AmMain
end
section
/-! CALLS, AND THE INDUCTION -/
section AmMain
variable {p : Program} {l : Launch} {e : Env} {R : Room} {s : State} {m : MethodId} {args : Array Value} {below : List Frame} {meth : Method} {c : Code} {H : Heap} {locs : List Loc} {cells slots : Nat} {Q : State → Prop}
variable {r : aM} {B : Nat} {D : va_G} {dA : Nat → ClassId} {E : aE} {xs : aX} {b : Nat} {pc : Nat} {ls : Array Slot} {L : aL} {S : List Value} {h : aH}
def am_Pc (B : Nat) (D : va_G) (dA : Nat → ClassId) (E : aE) (xs : aX) (b : Nat) (As : List Value) (H : Heap) : Array Value → State → Prop := fun a U => a = (As.map (am_tv E)).toArray ∧ am_G B D dA E xs b U ∧ U.heap = H
/-- the contract of a method out of a run -/
def am_Ct (l : Launch) (B : Nat) (D : va_G) (dA : Nat → ClassId) (E : aE) (xs : aX) (b d : Nat) (a : aM) (As : List Value) (h : aH) (u : aR) : Prop := ∀ H : Heap, am_Rel B D dA E h H →
  am_Met l a.1 (am_cw a.1 a.2.1 a.2.2.1 a.2.2.2.1 a.2.2.2.2.2.1) (am_rm d u.2.2.1 u.2.2.2) (am_Pc B D dA E xs b As H) (am_Oc B D dA E H u.1 u.2.1) B
theorem am_next (hS : va_S (am_A B) s.heap H locs) {H1 : Heap} {L1 : List Loc} (hz : H.size ≤ H1.size) (ho : ∀ q : Nat, q < B → H1[q]? = H[q]?) (hL : ∀ z ∈ L1, B ≤ z.base) : va_S (am_A B) s.heap H1 (locs ++ L1) := by
  refine ⟨Nat.le_trans hS.1 hz, fun q h1 h2 => (ho q (Nat.not_le.mp h2)).trans (hS.2.1 q h1 h2), fun z hz => ?_⟩
  rcases List.mem_append.mp hz with h9 | h9
  · exact hS.2.2 z h9
  · exact hL z h9
theorem am_beh2_ok (Cx : am_Cx r B D dA E xs b p l s m meth c) (hS : va_S (am_A B) s.heap H locs) (hl : lv_has ls r.2.2.1 (am_lm E L)) {rest : List Value} {u : aR} {t : aN ⊕ aR} (hf : am_beh2 r pc L rest u = some t) {y : MethodName} {cc : ByteArray} {maxL : Nat} {ret : Option FieldType} {hh : List (Nat × Nat × Nat × Nat)} {d : Nat} {Pc : Array Value → State → Prop} {a : Array Value} {ig : Instr} {st : List Value}
    (inv : ∀ T : State, T.heap = H → Stand p l e R s m args below meth c T locs cells slots → am_inv p l e R s m args below meth c T locs cells slots (F0 m pc ls st) (rest.map (am_tv E)) y a)
    (hM : am_Met l y (am_cw y cc maxL ret hh) (am_rm d u.2.2.1 u.2.2.2) Pc (am_Oc B D dA E H u.1 u.2.1) B) (hfr : d + 1 + 8 ≤ R.frames) (hlo : 60 * (d + 1) + 200 ≤ R.locals) (hmx : maxL ≤ 30)
    (hd : decode r.2.1 pc = .ok (ig, 3)) (hsum : am_sum rest ≤ 8)
    (hcw : am_in (am_cw y cc maxL ret hh)) (hini : am_in (.initialized y.cls))
    (h4 : cells + (am_kj t).1 ≤ R.cells) (h5 : slots + (am_kj t).2 ≤ R.slots) (hPc : ∀ (U : State) (g' : JFrame) (mk : MethodId), U.heap = H → s.WarmedH U.vm → Pc a (U.calling g' mk a))
    (kn : ∀ n : aN, t = .inl n → ∀ (H1 : Heap) (locs1 : List Loc) (ls1 : Array Slot), am_Rel B D dA E n.2.2.2.1 H1 → va_S (am_A B) s.heap H1 locs1 → lv_has ls1 r.2.2.1 (am_lm E n.2.1) → W p l e R s m args below meth c H1 locs1 (cells + n.2.2.2.2.1) (slots + n.2.2.2.2.2) Q (F0 m n.1 ls1 (n.2.2.1.map (am_tv E))))
    (ke : ∀ u : aR, t = .inr u → am_End below s B (am_Oc B D dA E s.heap u.1 u.2.1) (cells + u.2.2.1) (slots + u.2.2.2) Q) :
    W p l e R s m args below meth c H locs cells slots Q (F0 m pc ls st) := by
  obtain ⟨hx, hb, hml, hr, hlk, htb, hown, hnm, hst, hI, G, hB⟩ := Cx
  have hkj : (am_kj t).1 = u.2.2.1 ∧ (am_kj t).2 = u.2.2.2 := by
    obtain ⟨o, h', k, j⟩ := u
    unfold am_beh2 at hf
    split at hf
    · rename_i heq; cases heq; cases hf; exact ⟨rfl, rfl⟩
    · rename_i heq
      cases heq
      split at hf
      · cases hf
      · cases hf; exact ⟨rfl, rfl⟩
      · split at hf
        · cases hf; exact ⟨rfl, rfl⟩
        · cases hf
  rw [hkj.1] at h4
  rw [hkj.2] at h5
  refine am_callW (B := B) (ig := ig) inv hM (by show d + 8 + 1 ≤ _; omega) (by show 8 + (maxL + 11) + (60 * d + 200) ≤ _; omega) rfl (by rw [hml]; exact hl.1) (by rw [hb]; exact hd)
    (lv_room (by rw [show ((rest.map (am_tv E)).map fun v => v.category).sum = am_sum rest from am_sum_tv E rest]; exact hsum))
    (fun U hW => am_warm (args := #[]) hcw.2 hW (G.1 _ hcw _)) (fun U hW => am_warm (args := #[]) hini.2 hW (G.1 _ hini _)) h4 h5 hPc ?_ ?_
  · intro v t2 L2 hq hW2 hL2
    obtain ⟨q1, q2, q3, q4⟩ := hq
    obtain ⟨o, h', k, j⟩ := u
    unfold am_beh2 at hf
    split at hf
    · rename_i v' _ _ _ heq
      cases heq
      cases hf
      cases q4
      have h9 := kn _ rfl t2.heap (locs ++ L2) ls q1 (am_next hS q2 q3 hL2) hl
      rw [show (v'.toList ++ rest).map (am_tv E) = (v'.map (am_tv E)).toList ++ rest.map (am_tv E) by rw [List.map_append]; cases v' <;> rfl] at h9
      exact h9
    · rename_i heq
      cases heq
      cases q4.1
  · intro q t2 L2 hq hW2 hL2
    obtain ⟨q1, q2, q3, q4⟩ := hq
    obtain ⟨o, h', k, j⟩ := u
    unfold am_beh2 at hf
    split at hf
    · rename_i heq
      cases heq
      cases q4
    · rename_i x _ _ _ heq
      cases heq
      obtain ⟨q5, ce, q6, q7, q8⟩ := q4
      cases q5
      split at hf
      · cases hf
      · rename_i hhand
        cases hf
        refine am_out (rest := rest.map (am_tv E)) (fun y hy => am_hand_none hhand y (by rw [← htb]; exact hy)) hlk ?_
        intro t3 t31 t32 t33 t34 t35
        refine ke _ rfl t3 _ (locs ++ L2) t31 t32 ⟨by rw [t33]; exact q1, by rw [t33]; exact Nat.le_trans hS.1 q2, fun z hz => ?_, rfl, ce, by rw [t33]; exact q6, q7, ?_⟩ (Or.inr ⟨_, rfl⟩) t34 t35 (am_next hS q2 q3 hL2).2.2
        · rw [t33, q3 z hz]
          exact hS.2.1 z (Nat.lt_of_lt_of_le hz hB) (Nat.not_le.mpr hz)
        · rw [t34.alike.findClass, ← hW2.alike.findClass]; exact q8
      · rename_i hp hhand
        split at hf
        · rename_i hlt
          cases hf
          obtain ⟨pre, z, suf, p1, p2, p3, p4, p5, p6⟩ := am_hand_some hhand
          subst p6
          have h9 := kn _ rfl t2.heap (locs ++ L2) ls q1 (am_next hS q2 q3 hL2) hl
          rw [List.map_cons, List.map_nil, am_ref G (by simpa using hlt)] at h9
          exact am_catch (own := am_R r.2.2.2.2.1) (E := am_xn x) (rest := rest.map (am_tv E)) hown pre z suf (htb.trans p1) (fun y hy => by
            rcases p2 y hy with h8 | ⟨h8, yn, h7, h6, h5, h3⟩
            · exact Or.inl h8
            · exact Or.inr ⟨h8, _, G.1 _ h7 _, G.2.2.2.2.2.2.2.2.2.1 x yn h6 h5 h3⟩) p3 p4 (G.1 _ p5 _) (G.1 _ (am_cst x) _) q6 q7 (by rw [← hW2.alike.findClass]; exact q8) h9
        · cases hf
end AmMain
end
section
/-! A CALL OUT OF A RUN; THE INDUCTION OVER RUNS -/
theorem am_Rn : ∀ (ci : Nat) (q : vw_C), vwCl[ci]? = some q → q.1 = am_R ci := by
  intro ci q h
  match ci, h with
  | 0, h => cases h; rfl
  | 1, h => cases h; rfl
  | 2, h => cases h; rfl
  | 3, h => cases h; rfl
  | 4, h => cases h; rfl
  | 5, h => cases h; rfl
  | 6, h => cases h; rfl
  | 7, h => cases h; rfl
  | 8, h => cases h; rfl
  | 9, h => cases h; rfl
  | 10, h => cases h; rfl
  | 11, h => cases h; rfl
  | k + 12, h => simp [vwCl] at h
theorem am_rc1_ok {a : aM} {h : aH} {As : List Value} (h9 : am_rc1 a h As = true) : ∃ rk As' ci fs, As = .ref rk :: As' ∧ am_get h rk = some (false, ci, fs) ∧ ci = a.2.2.2.2.1 := by
  unfold am_rc1 at h9
  split at h9
  · split at h9
    · rename_i h8
      exact ⟨_, _, _, _, rfl, h8, Nat.eq_of_beq_eq_true h9⟩
    · cases h9
  · cases h9
theorem am_rc2_ok {As : List Value} (h9 : am_rc2 As = true) : ∃ rk As', As = .ref rk :: As' := by
  unfold am_rc2 at h9
  split at h9
  · exact ⟨_, _, rfl⟩
  · cases h9
section AmMain
variable {p : Program} {l : Launch} {e : Env} {R : Room} {s : State} {m : MethodId} {args : Array Value} {below : List Frame} {meth : Method} {c : Code} {H : Heap} {locs : List Loc} {cells slots : Nat} {Q : State → Prop}
variable {r : aM} {B : Nat} {D : va_G} {dA : Nat → ClassId} {E : aE} {xs : aX} {b : Nat} {pc : Nat} {ls : Array Slot} {L : aL} {S : List Value} {h : aH}
theorem am_invk_ok (Cx : am_Cx r B D dA E xs b p l s m meth c) (hR : am_Rel B D dA E h H) (hS : va_S (am_A B) s.heap H locs) (hl : lv_has ls r.2.2.1 (am_lm E L)) {call : aM → List Value → aH → Option aR} {kind idx d : Nat} (hk3 : kind < 3) {t : aN ⊕ aR} (hf : am_invk call r kind idx pc L S h = some t)
    (hcall : ∀ (a : aM) (As : List Value) (u : aR), call a As h = some u → am_okM a → am_okI a → am_sum As ≤ a.2.2.1 → am_Ct l B D dA E xs b d a As h u) (hfr : d + 1 + 8 ≤ R.frames) (hlo : 60 * (d + 1) + 200 ≤ R.locals)
    (hd : decode r.2.1 pc = .ok (am_vI kind idx, 3)) (h4 : cells + (am_kj t).1 ≤ R.cells) (h5 : slots + (am_kj t).2 ≤ R.slots)
    (kn : ∀ n : aN, t = .inl n → ∀ (H1 : Heap) (locs1 : List Loc) (ls1 : Array Slot), am_Rel B D dA E n.2.2.2.1 H1 → va_S (am_A B) s.heap H1 locs1 → lv_has ls1 r.2.2.1 (am_lm E n.2.1) → W p l e R s m args below meth c H1 locs1 (cells + n.2.2.2.2.1) (slots + n.2.2.2.2.2) Q (F0 m n.1 ls1 (n.2.2.1.map (am_tv E))))
    (ke : ∀ u : aR, t = .inr u → am_End below s B (am_Oc B D dA E s.heap u.1 u.2.1) (cells + u.2.2.1) (slots + u.2.2.2) Q) :
    W p l e R s m args below meth c H locs cells slots Q (F0 m pc ls (S.map (am_tv E))) := by
  have Cx' := Cx
  obtain ⟨hx, hb, hml, hr, hlk, htb, hown, hnm, hst, hI, G, hB⟩ := Cx
  unfold am_invk at hf
  split at hf
  · cases hf
  · rename_i q hlook
    split at hf
    · cases hf
    · rename_i hkd
      split at hf
      · cases hf
      · rename_i a hprog
        split at hf
        · cases hf
        · rename_i hchk
          split at hf
          · cases hf
          · rename_i u hu
            simp only [Bool.and_eq_true] at hchk
            obtain ⟨⟨⟨k1, k2⟩, k3⟩, k4⟩ := hchk
            have k1 := Nat.eq_of_beq_eq_true k1
            have k2 := Nat.le_of_ble_eq_true k2
            have k3 := Nat.le_of_ble_eq_true k3
            obtain ⟨a', ha', hlink, hokM, hkind⟩ := am_lk_ok _ (am_look2_mem hlook)
            cases Option.some.inj (hprog.symm.trans ha')
            have hkd : q.2 = kind := Nat.eq_of_beq_eq_true hkd
            have hokI : am_okI a := am_prog_ok a (List.mem_of_getElem? hprog)
            have hM := hcall _ _ _ hu hokM hokI k3 H hR
            have hSeq : S = ((S.take (am_nar kind a)).reverse).reverse ++ S.drop (am_nar kind a) := by rw [List.reverse_reverse, List.take_append_drop]
            generalize (S.take (am_nar kind a)).reverse = As at *
            generalize S.drop (am_nar kind a) = rest at *
            subst hSeq
            obtain ⟨o1, o2, o3, o4, o5, o6, o7⟩ := hokM
            have hlk1 : (Cond.methodLink (am_R r.2.2.2.2.1) idx a.1).before args s = true ∨ ∃ host, (Cond.methodLinkNest (am_R r.2.2.2.2.1) idx a.1 host).before args s = true := by
              rcases hlink with h9 | ⟨host, h9⟩
              · exact Or.inl (G.1 _ h9 _)
              · exact Or.inr ⟨host, G.1 _ h9 _⟩
            have hlen : ∀ (n : Nat), a.2.2.2.2.2.2.1 = n → ∀ sig, parseMethodDescriptor a.1.desc = some sig → n = sig.parameters.length := by
              intro n hn sig h9
              rw [h9] at o7
              rw [← hn]
              exact (Option.some.inj o7).symm
            have hPc : ∀ (U : State) (g' : JFrame) (mk : MethodId), U.heap = H → s.WarmedH U.vm → am_Pc B D dA E xs b As H (As.map (am_tv E)).toArray (U.calling g' mk (As.map (am_tv E)).toArray) := fun U g' mk hU hW => ⟨rfl, am_calling G hS hU hW g' mk _, hU⟩
            have hSm : (As.reverse ++ rest).map (am_tv E) = (As.map (am_tv E)).reverse ++ rest.map (am_tv E) := by rw [List.map_append, List.map_reverse]
            rw [hSm]
            rcases (show kind = 0 ∨ kind = 1 ∨ kind = 2 by omega) with rfl | rfl | rfl
            · have hst9 : am_in (.static a.1) := by
                rcases hkind with h9 | h9 | h9
                · exact h9.2
                · have := h9.1; dsimp only at this; omega
                · have := h9.1; dsimp only at this; omega
              refine am_beh2_ok Cx' hS hl hf (fun T hT X => am_invS X hx hown hlk1 (G.1 _ hst9 _) (G.1 _ o3 _) (G.1 _ o2 _) o6 rfl (argsL := As.map (am_tv E)) (fun sig h9 => ?_) rfl (by rw [hb]; exact hd)) hM hfr hlo o5 hd k2 o2 o3 h4 h5 hPc kn ke
              rw [List.length_map]
              exact hlen As.length k1.symm sig h9
            · have hvi : am_in (.instanceMethod a.1) ∧ am_in (.selects a.1.cls a.1 a.1) := by
                rcases hkind with h9 | h9 | h9
                · have := h9.1; dsimp only at this; omega
                · exact h9.2
                · have := h9.1; dsimp only at this; omega
              obtain ⟨rk, As', ci, fs, rfl, hget, hci⟩ := am_rc1_ok k4
              obtain ⟨hlt, hcell⟩ := am_get_ok hget
              obtain ⟨q', hq', -, cell, g1, g2, g3, -⟩ := hR.2 rk _ hcell
              have hfc := (G.2.1.1 ci q' hq').2.1
              have hcl : s.vm.findClass a.1.cls = some cell.cls := by
                rw [g2, ← o4, ← hci, ← am_Rn ci q' hq']
                exact hfc
              refine am_beh2_ok (a := (((Value.ref rk) :: As').map (am_tv E)).toArray) Cx' hS hl hf (fun T hT X => ?_) hM hfr hlo o5 hd k2 o2 o3 h4 h5 hPc kn ke
              have hrf := am_ref G hlt
              have h9 := am_invV X hx hown hlk1 (G.1 _ hvi.1 _) (G.1 _ hvi.2 _) (G.1 _ o2 _) o6 (b := B + rk) (by rw [hT]; exact g1) (by rw [g3]; rfl) hcl (g := F0 m pc ls ((((Value.ref rk) :: As').map (am_tv E)).reverse ++ rest.map (am_tv E))) rfl (argsL := As'.map (am_tv E)) (rest := rest.map (am_tv E)) (fun sig h9 => ?_) (by rw [List.map_cons, List.reverse_cons, hrf, List.append_assoc]; rfl) (by rw [hb]; exact hd)
              · rw [List.map_cons, hrf]
                rw [List.map_cons, hrf] at h9
                exact h9
              · rw [List.length_map]
                refine hlen As'.length ?_ sig h9
                have k9 : (Value.ref rk :: As').length = a.2.2.2.2.2.2.1 + 1 := k1
                rw [List.length_cons] at k9
                omega
            · have hvi : am_in (.instanceMethod a.1) ∧ a.1.name = "<init>" ∧ a.2.2.2.1 = none ∧ a.2.2.2.2.2.1 = [] := by
                rcases hkind with h9 | h9 | h9
                · have := h9.1; dsimp only at this; omega
                · have := h9.1; dsimp only at this; omega
                · exact h9.2
              obtain ⟨rk, As', rfl⟩ := am_rc2_ok k4
              have hcode : (Cond.code a.1 a.2.1 a.2.2.1 none).before args s = true := by
                have h9 := G.1 _ o2 args
                rw [hvi.2.2.1, hvi.2.2.2] at h9
                exact h9
              refine am_beh2_ok (a := (((Value.ref rk) :: As').map (am_tv E)).toArray) Cx' hS hl hf (fun T hT X => ?_) hM hfr hlo o5 hd k2 o2 o3 h4 h5 hPc kn ke
              refine am_invI X hx hown hvi.2.1 hlk1 (G.1 _ hvi.1 _) hcode o6 (b := E.1 rk) rfl (argsL := As'.map (am_tv E)) (rest := rest.map (am_tv E)) (fun sig h9 => ?_) (by show (Value.ref (E.1 rk) :: As'.map (am_tv E)).reverse ++ _ = _; rw [List.reverse_cons, List.append_assoc]; rfl) (by rw [hb]; exact hd)
              rw [List.length_map]
              refine hlen As'.length ?_ sig h9
              have k9 : (Value.ref rk :: As').length = a.2.2.2.2.2.2.1 + 1 := k1
              rw [List.length_cons] at k9
              omega
theorem am_obj_ok (Cx : am_Cx r B D dA E xs b p l s m meth c) (hl : lv_has ls r.2.2.1 (am_lm E L)) {idx : Nat} {S' : List Value} (hf : am_obj r.2.2.2.2.1 idx S = some S') (hd : decode r.2.1 pc = .ok (.invokespecial idx, 3)) (hfr : 1 ≤ R.frames) (hlo : 20 ≤ R.locals)
    (k : W p l e R s m args below meth c H locs cells slots Q (F0 m (pc + 3) ls (S'.map (am_tv E)))) : W p l e R s m args below meth c H locs cells slots Q (F0 m pc ls (S.map (am_tv E))) := by
  obtain ⟨hx, hb, hml, hr, hlk, htb, hown, hnm, hst, hI, G, hB⟩ := Cx
  unfold am_obj at hf
  split at hf
  · rename_i a T
    split at hf
    · rename_i q hlook
      split at hf
      · rename_i hsum
        cases hf
        have hsum := Nat.le_of_ble_eq_true hsum
        refine W.objInit hx hb hown (G.1 _ (am_oiT_ok _ (am_look2_mem hlook)) _) (G.1 _ am_oI _) (G.1 _ am_oC _) rfl (by rw [hml]; exact hl.1) rfl hd hfr ?_ k
        show 2 * 0 + ((S'.map (am_tv E)).map fun v => v.category).sum + 12 ≤ _
        rw [show ((S'.map (am_tv E)).map fun v => v.category).sum = am_sum S' from am_sum_tv E S']
        omega
      · cases hf
    · cases hf
  · cases hf
theorem am_slen_ok (Cx : am_Cx r B D dA E xs b p l s m meth c) (hR : am_Rel B D dA E h H) (hS : va_S (am_A B) s.heap H locs) (hl : lv_has ls r.2.2.1 (am_lm E L)) {idx : Nat} {S' : List Value} (hf : am_slen r.2.2.2.2.1 idx S = some S') (hd : decode r.2.1 pc = .ok (.invokevirtual idx, 3)) (hfr : 2 ≤ R.frames) (hlo : 40 ≤ R.locals) (hc : cells ≤ R.cells) (hs : slots ≤ R.slots)
    (k : ∀ (H1 : Heap) (locs1 : List Loc), am_Rel B D dA E h H1 → va_S (am_A B) s.heap H1 locs1 → W p l e R s m args below meth c H1 locs1 cells slots Q (F0 m (pc + 3) ls (S'.map (am_tv E)))) : W p l e R s m args below meth c H locs cells slots Q (F0 m pc ls (S.map (am_tv E))) := by
  obtain ⟨hx, hb, hml, hr, hlk, htb, hown, hnm, hst, hI, G, hB⟩ := Cx
  unfold am_slen at hf
  split at hf
  · rename_i a T
    split at hf
    · rename_i q hlook
      split at hf
      · rename_i hchk
        cases hf
        simp only [Bool.and_eq_true] at hchk
        obtain ⟨⟨k1, k2⟩, k3⟩ := hchk
        have k1 := Nat.le_of_ble_eq_true k1
        have k2 : a < 1000000 + am_sn := by simpa using k2
        have k3 := Nat.le_of_ble_eq_true k3
        obtain ⟨i, rfl⟩ : ∃ i : Nat, a = 1000000 + i := ⟨a - 1000000, (Nat.add_sub_cancel' k1).symm⟩
        have hi : i < am_sn := Nat.lt_of_add_lt_add_left k2
        rw [show 1000000 + i - 1000000 = i from Nat.add_sub_cancel_left _ _] at k
        obtain ⟨z1, -, adV, z3⟩ := id G.2.2.2.2.2.2.2.2.2.2.1
        obtain ⟨cellB, c1, c2, c3, -⟩ := (z3 i hi).1.kept hS.2.1
        rw [List.map_cons]
        refine am_call (ig := .invokevirtual idx) (rest := T.map (am_tv E)) (fun Tt hT X => am_invV (cc := cJ0_length_8abf5) (maxL := 1) (ret := some .int) (hh := []) X hx hown (Or.inl (G.1 _ (am_sli_ok _ (am_look2_mem hlook)) _)) (G.1 _ am_s1 _) (G.1 _ am_s2 _) (G.1 _ am_s10 _) (by decide +kernel) (by rw [hT]; exact c1) c2 c3 rfl (argsL := []) (fun sig h => by
            have h9 : parseMethodDescriptor yJ0_length_8abf5.desc = some ⟨[], some .int⟩ := by decide +kernel
            rw [h9] at h; cases h; rfl) rfl (by rw [hb]; exact hd))
          (am_length (E := E) (B := B) (D := D) (dA := dA) (xs := xs) (b := b) i hi H) (by show 1 + 1 ≤ _; omega) (by show 8 + (1 + 11) + 20 ≤ _; omega) rfl (by rw [hml]; exact hl.1) (by rw [hb]; exact hd)
          (lv_room (by rw [show ((T.map (am_tv E)).map fun v => v.category).sum = am_sum T from am_sum_tv E T]; exact k3))
          (fun U hW => am_warm (args := #[]) am_s10.2 hW (G.1 _ am_s10 _)) (fun U hW => am_warm (args := #[]) am_s3.2 hW (G.1 _ am_s3 _)) hc hs
          (fun U g' mk hU hW => ⟨rfl, am_calling G hS hU hW g' mk _, hU⟩) (fun v t L2 hq hL2 => ?_) (fun q t L2 hq hL2 => by cases hq.1)
        cases hq.1
        have h9 := k t.heap (locs ++ L2) (by rw [hq.2]; exact hR) (am_next hS (by rw [hq.2]; exact Nat.le_refl _) (fun q _ => by rw [hq.2]) hL2)
        exact h9
      · cases hf
    · cases hf
  · cases hf
/-- THE CONTRACT OUT OF THE INDUCTION's HYPOTHESIS -/
theorem am_schr_ok (Cx : am_Cx r B D dA E xs b p l s m meth c) (hR : am_Rel B D dA E h H) (hS : va_S (am_A B) s.heap H locs) (hl : lv_has ls r.2.2.1 (am_lm E L)) {idx : Nat} {S' : List Value} (hf : am_schr r.2.2.2.2.1 idx S = some S') (hd : decode r.2.1 pc = .ok (.invokevirtual idx, 3)) (hfr : 8 ≤ R.frames) (hlo : 200 ≤ R.locals) (hc : cells ≤ R.cells) (hs : slots ≤ R.slots)
    (k : ∀ (H1 : Heap) (locs1 : List Loc), am_Rel B D dA E h H1 → va_S (am_A B) s.heap H1 locs1 → W p l e R s m args below meth c H1 locs1 cells slots Q (F0 m (pc + 3) ls (S'.map (am_tv E)))) : W p l e R s m args below meth c H locs cells slots Q (F0 m pc ls (S.map (am_tv E))) := by
  obtain ⟨hx, hb, hml, hr, hlk, htb, hown, hnm, hst, hI, G, hB⟩ := Cx
  unfold am_schr at hf
  split at hf
  · rename_i j a T
    split at hf
    · rename_i q hlook
      split at hf
      · rename_i hchk
        cases hf
        simp only [Bool.and_eq_true, Bool.not_eq_true', decide_eq_false_iff_not] at hchk
        obtain ⟨⟨⟨⟨k1, k2⟩, k3⟩, k4⟩, k5⟩ := hchk
        have k1 := Nat.le_of_ble_eq_true k1
        have k2 : a < 1000000 + am_sn := by simpa using k2
        have k3 := Nat.le_of_ble_eq_true k3
        obtain ⟨i, rfl⟩ : ∃ i : Nat, a = 1000000 + i := ⟨a - 1000000, (Nat.add_sub_cancel' k1).symm⟩
        have hi : i < am_sn := Nat.lt_of_add_lt_add_left k2
        rw [show 1000000 + i - 1000000 = i from Nat.add_sub_cancel_left _ _] at k k5
        have k5 : j.toNatClampNeg < am_sl i := by simpa using k5
        obtain ⟨z1, -, adV, z3⟩ := id G.2.2.2.2.2.2.2.2.2.2.1
        obtain ⟨cellB, c1, c2, c3, -⟩ := (z3 i hi).1.kept hS.2.1
        rw [List.map_cons, List.map_cons]
        refine am_call (ig := .invokevirtual idx) (rest := T.map (am_tv E)) (fun Tt hT X => am_invV (cc := cJ0_charAt_5068e) (maxL := 2) (ret := some .char) (hh := []) X hx hown (Or.inl (G.1 _ (am_sci_ok _ (am_look2_mem hlook)) _)) (G.1 _ am_C0i _) (G.1 _ am_C0s _) (G.1 _ am_C0c _) (by decide +kernel) (by rw [hT]; exact c1) c2 c3 rfl (argsL := [.int j]) (fun sig h => by
            have h9 : parseMethodDescriptor yJ0_charAt_5068e.desc = some ⟨[.int], some .char⟩ := by decide +kernel
            rw [h9] at h; cases h; rfl) rfl (by rw [hb]; exact hd))
          (am_charAt (E := E) (B := B) (D := D) (dA := dA) (xs := xs) (b := b) i hi j k4 k5 H) (by show 4 + 1 ≤ _; omega) (by show 8 + (2 + 11) + 120 ≤ _; omega) rfl (by rw [hml]; exact hl.1) (by rw [hb]; exact hd)
          (lv_room (by rw [show ((T.map (am_tv E)).map fun v => v.category).sum = am_sum T from am_sum_tv E T]; exact k3))
          (fun U hW => am_warm (args := #[]) am_C0c.2 hW (G.1 _ am_C0c _)) (fun U hW => am_warm (args := #[]) am_s3.2 hW (G.1 _ am_s3 _)) hc hs
          (fun U g' mk hU hW => ⟨rfl, am_calling G hS hU hW g' mk _, hU⟩) (fun v t L2 hq hL2 => ?_) (fun q t L2 hq hL2 => by cases hq.1)
        cases hq.1
        have h9 := k t.heap (locs ++ L2) (by rw [hq.2]; exact hR) (am_next hS (by rw [hq.2]; exact Nat.le_refl _) (fun q _ => by rw [hq.2]) hL2)
        exact h9
      · cases hf
    · cases hf
  · cases hf
theorem am_cpy_get {l0 l1 : List Value} {sp dp n : Nat} (h0 : sp + n ≤ l0.length) (h1 : dp + n ≤ l1.length) (j : Nat) : (am_cpy l0 l1 sp dp n).getD j .null = va_cpy (fun j => l0.getD j .null) (fun j => l1.getD j .null) sp dp n j := by
  have e1 : (l1.take dp).length = dp := by rw [List.length_take]; omega
  have e2 : ((l0.drop sp).take n).length = n := by rw [List.length_take, List.length_drop]; omega
  unfold am_cpy va_cpy
  by_cases a1 : j < dp
  · rw [if_neg (by omega), List.getD_eq_getElem?_getD, List.getElem?_append_left (by omega), List.getElem?_take_of_lt a1, ← List.getD_eq_getElem?_getD]
  · by_cases a2 : j < dp + n
    · rw [if_pos (by omega), List.getD_eq_getElem?_getD, List.getElem?_append_right (by omega), e1, List.getElem?_append_left (by omega), List.getElem?_take_of_lt (by omega), List.getElem?_drop, ← List.getD_eq_getElem?_getD]
    · rw [if_neg (by omega), List.getD_eq_getElem?_getD, List.getElem?_append_right (by omega), e1, List.getElem?_append_right (by omega), e2, List.getElem?_drop, ← List.getD_eq_getElem?_getD]
      congr 1
      omega
theorem am_cpy_len {l0 l1 : List Value} {sp dp n : Nat} (h0 : sp + n ≤ l0.length) (h1 : dp + n ≤ l1.length) : (am_cpy l0 l1 sp dp n).length = l1.length := by
  unfold am_cpy
  simp only [List.length_append, List.length_take, List.length_drop]
  omega
theorem am_acp_ok (Cx : am_Cx r B D dA E xs b p l s m meth c) (hR : am_Rel B D dA E h H) (hS : va_S (am_A B) s.heap H locs) (hl : lv_has ls r.2.2.1 (am_lm E L)) {idx : Nat} {q9 : List Value × aH} (hf : am_acp r.2.2.2.2.1 idx S h = some q9) (hd : decode r.2.1 pc = .ok (.invokestatic idx, 3)) (hfr : 1 ≤ R.frames) (hlo : 100 ≤ R.locals)
    (k : ∀ (H1 : Heap) (locs1 : List Loc), am_Rel B D dA E q9.2 H1 → va_S (am_A B) s.heap H1 locs1 → W p l e R s m args below meth c H1 locs1 cells slots Q (F0 m (pc + 3) ls (q9.1.map (am_tv E)))) : W p l e R s m args below meth c H locs cells slots Q (F0 m pc ls (S.map (am_tv E))) := by
  obtain ⟨hx, hb, hml, hr, hlk, htb, hown, hnm, hst, hI, G, hB⟩ := Cx
  have nn : ∀ z : Int32, ¬ z < 0 → z.toInt = (z.toNatClampNeg : Int) := by
    intro z hz
    have hz0 : (0 : Int) ≤ z.toInt := by
      have := Int32.not_lt.mp hz
      simpa using Int32.le_iff_toInt_le.mp this
    show z.toInt = ((z.toInt.toNat : Nat) : Int)
    omega
  unfold am_acp at hf
  split at hf
  · rename_i n dp d sp s0 T
    split at hf
    · rename_i q hlook
      split at hf
      · rename_i t0 l0 hg0
        split at hf
        · rename_i t1 l1 hg1
          split at hf
          · rename_i hchk
            cases hf
            simp only [Bool.and_eq_true, Bool.not_eq_true', decide_eq_false_iff_not] at hchk
            obtain ⟨⟨⟨⟨⟨⟨⟨⟨⟨k1, k2⟩, k3⟩, k4⟩, k5⟩, k6⟩, k7⟩, k8⟩, k9⟩, k10⟩ := hchk
            cases (Nat.eq_of_beq_eq_true k1 : t0 = 0)
            cases (Nat.eq_of_beq_eq_true k2 : t1 = 0)
            have k4 := Nat.le_of_ble_eq_true k4
            have k8 := Nat.le_of_ble_eq_true k8
            have k9 := Nat.le_of_ble_eq_true k9
            obtain ⟨b0, e0⟩ := am_get_ok hg0
            obtain ⟨b1, e1'⟩ := am_get_ok hg1
            obtain ⟨-, c0⟩ := hR.2 s0 _ e0
            obtain ⟨-, c1⟩ := hR.2 d _ e1'
            obtain ⟨-, kk0, hk0, cm0, hkk0⟩ := am_arr G (tk := 0) (by omega) l0.length (fun j => am_tv E (l0.getD j .null))
            obtain ⟨-, kk1, hk1, cm1, hkk1⟩ := am_arr G (tk := 0) (by omega) l1.length (fun j => am_tv E (l1.getD j .null))
            rw [List.map_cons, List.map_cons, List.map_cons, List.map_cons, List.map_cons, am_ref G b0, am_ref G b1]
            intro TT hT X
            have hsum : ((T.map (am_tv E)).map fun v => v.category).sum ≤ 8 := by
              rw [show ((T.map (am_tv E)).map fun v => v.category).sum = am_sum T from am_sum_tv E T]; exact k4
            have hnf : nativeFrameWords "java/lang/System" "arraycopy" 5 + 11 ≤ 60 := by decide +kernel
            obtain ⟨vm', X', step⟩ := X.arraycopy hx hown (G.1 _ (am_acT_ok _ (am_look2_mem hlook)) _) (G.1 _ am_aN _) (G.1 _ am_aS _) (G.1 _ am_aI _) (src := B + s0) (dst := B + d) (cs := arrV (dA 0) l0.length (fun j => am_tv E (l0.getD j .null))) (cd := arrV (dA 0) l1.length (fun j => am_tv E (l1.getD j .null))) (srcPos := sp) (destPos := dp) (n := n) (by rw [hT]; exact c0) (by rw [hT]; exact c1)
              (fun _ h => by cases h) (fun _ h => by cases h) (fun h => by cases h) (fun h => by cases h) hk0 hk1 hkk0 hkk1 rfl k6 k7 k5
              (by rw [nn sp k6, nn n k5, arrV_size]; omega)
              (by rw [nn dp k7, nn n k5, arrV_size]; omega)
              (fun vm₁ _ i hi => by
                have e : (arrV (dA 0) l0.length (fun j => am_tv E (l0.getD j .null))).slots.getD (sp.toNatClampNeg + i) .null = am_tv E (l0.getD (sp.toNatClampNeg + i) .null) := by
                  rw [Array.getD_eq_getD_getElem?, arrV_read _ _ (by omega)]
                  rfl
                have e2 : am_isI (l0.getD (sp.toNatClampNeg + i) .null) = true := by
                  refine List.all_eq_true.mp k10 _ ?_
                  have hlt : sp.toNatClampNeg + i < l0.length := by omega
                  rw [List.getD_eq_getElem?_getD, List.getElem?_eq_getElem hlt]
                  refine List.mem_iff_getElem?.mpr ⟨i, ?_⟩
                  rw [List.getElem?_take_of_lt hi, List.getElem?_drop, List.getElem?_eq_getElem hlt]
                  rfl
                obtain ⟨x, hx9⟩ := am_tvI (E := E) e2
                rw [e, hx9]
                exact ⟨rfl, trivial⟩)
              (g := F0 m pc ls (.int n :: .int dp :: .ref (B + d) :: .int sp :: .ref (B + s0) :: T.map (am_tv E))) rfl (by rw [hml]; exact hl.1) (rest := T.map (am_tv E)) rfl (by rw [hb]; exact hd) hfr (by show 2 * 0 + _ + _ ≤ _; omega)
            have e1 : copied (arrV (dA 0) l0.length (fun j => am_tv E (l0.getD j .null))) (arrV (dA 0) l1.length (fun j => am_tv E (l1.getD j .null))) sp dp n = arrV (dA 0) (am_cpy l0 l1 sp.toNatClampNeg dp.toNatClampNeg n.toNatClampNeg).length (fun j => am_tv E ((am_cpy l0 l1 sp.toNatClampNeg dp.toNatClampNeg n.toNatClampNeg).getD j .null)) := by
              rw [am_cpy_len k8 k9, show (fun j => am_tv E ((am_cpy l0 l1 sp.toNatClampNeg dp.toNatClampNeg n.toNatClampNeg).getD j .null)) = (fun j => am_tv E (va_cpy (fun j => l0.getD j .null) (fun j => l1.getD j .null) sp.toNatClampNeg dp.toNatClampNeg n.toNatClampNeg j)) from funext fun j => by rw [am_cpy_get k8 k9 j]]
              exact va_copied (am_tv E) (dA 0) (dA 0) (fun j => l0.getD j .null) (fun j => l1.getD j .null) k8
            rw [e1] at X' step
            generalize am_cpy l0 l1 sp.toNatClampNeg dp.toNatClampNeg n.toNatClampNeg = ln at X' step k
            have hl9 : B + d < H.size := (Array.getElem?_eq_some_iff.mp c1).1
            have hheap : ((TT.setVm vm').setCell (B + d) (arrV (dA 0) ln.length (fun j => am_tv E (ln.getD j .null)))).heap = H.setIfInBounds (B + d) (arrV (dA 0) ln.length (fun j => am_tv E (ln.getD j .null))) := by rw [← hT]; rfl
            have oq : ∀ q : Nat, q ≠ B + d → (H.setIfInBounds (B + d) (arrV (dA 0) ln.length (fun j => am_tv E (ln.getD j .null))))[q]? = H[q]? := fun q hq => by simp [Array.getElem?_setIfInBounds, Ne.symm hq]
            obtain ⟨t, a1, b1⟩ := k _ _ (hR.set (c' := (true, 0, ln)) e1' (by simp) oq ⟨by omega, by simp [Array.getElem?_setIfInBounds, hl9]⟩) ⟨by simp; exact hS.1, fun q g1 g2 => by
                rw [oq q (fun e => g2 (by rw [e]; exact Nat.le_add_right _ _))]
                exact hS.2.1 q g1 g2, fun q hq => by
                rcases List.mem_append.mp hq with h | h
                · exact hS.2.2 q h
                · obtain ⟨z, -, hz⟩ := List.mem_map.mp h
                  rw [← hz]
                  exact Nat.le_add_right _ _⟩ _ hheap X'
            exact ⟨t, step t a1, b1⟩
          · cases hf
        · cases hf
      · cases hf
    · cases hf
  · cases hf
theorem am_ldcs_ok (Cx : am_Cx r B D dA E xs b p l s m meth c) {idx : Nat} {v : Value} (hf : am_ldcs r.2.2.2.2.1 idx = some v) (hd : decode r.2.1 pc = .ok (.ldc idx, 2))
    (k : W p l e R s m args below meth c H locs cells slots Q (F0 m (pc + 2) ls (am_tv E v :: S.map (am_tv E)))) : W p l e R s m args below meth c H locs cells slots Q (F0 m pc ls (S.map (am_tv E))) := by
  obtain ⟨hx, hb, hml, hr, hlk, htb, hown, hnm, hst, hI, G, hB⟩ := Cx
  obtain ⟨z1, z2, z3⟩ := G.2.2.2.2.2.2.2.2.2.2.1
  unfold am_ldcs at hf
  split at hf
  · rename_i i hlook
    cases hf
    have h9 : vk_R (am_R r.2.2.2.2.1) idx (am_sx i) (E.1 (1000000 + i)) s := z2 (r.2.2.2.2.1, idx, i) (am_look2_mem hlook)
    exact va_ldcS (tx := am_sx i) (q := E.1 (1000000 + i)) hx hb hown h9 hd k
  · cases hf
theorem am_invk_none {kind idx : Nat} {t : aN ⊕ aR} (hf : am_invk (fun _ _ _ => none) r kind idx pc L S h = some t) : False := by
  unfold am_invk at hf
  split at hf
  · cases hf
  · split at hf
    · cases hf
    · split at hf
      · cases hf
      · split at hf
        · cases hf
        · cases hf
theorem am_ct {d : Nat} {a : aM} {As : List Value} {u : aR} (hM : am_okM a) (hI : am_okI a) (hl : l.stackTraces = false) (hB : ∀ U : State, am_Rel B D dA E h U.heap → B ≤ U.heap.size) (hsum : am_sum As ≤ a.2.2.1)
    (ih : ∀ {p : Program} {e : Env} {R : Room} {s : State} {m : MethodId} {args : Array Value} {below : List Frame} {meth : Method} {c : Code} {H : Heap} {locs : List Loc} {cells slots : Nat} {Q : State → Prop} {ls : Array Slot}, am_Cx a B D dA E xs b p l s m meth c → am_Rel B D dA E h H → va_S (am_A B) s.heap H locs → lv_has ls a.2.2.1 (am_lm E (lv_args 0 As)) →
      d + 8 ≤ R.frames → 60 * d + 200 ≤ R.locals → cells + u.2.2.1 ≤ R.cells → slots + u.2.2.2 ≤ R.slots → am_End below s B (am_Oc B D dA E s.heap u.1 u.2.1) (cells + u.2.2.1) (slots + u.2.2.2) Q → W p l e R s m args below meth c H locs cells slots Q (F0 m 0 ls [])) :
    am_Ct l B D dA E xs b d a As h u := by
  intro H hR
  refine am_ofW hM.1 ?_
  intro p e s m args below meth c hx hb hml hr hlk htb hme hnm hP
  obtain ⟨rfl, G, rfl⟩ := hP
  have hown : s.vm.findClass (am_R a.2.2.2.2.1) = some m.cls := by rw [hM.2.2.2.1]; exact findClass_of_methodNamed hnm
  have hl9 := lv_entry (As.map (am_tv E)) (n := a.2.2.1) (by rw [am_sl_len, am_sum_tv]; exact hsum)
  rw [am_args_tv] at hl9
  rw [lg_entry_eq]
  refine ih ⟨hx, hb, hml, hr, hlk, htb, hown, (name_of_methodNamed hnm hme).1, hl, hI, G, hB s hR⟩ hR va_S.rf hl9 (Nat.le_refl _) (Nat.le_refl _) (by rw [Nat.zero_add]; exact Nat.le_refl _) (by rw [Nat.zero_add]; exact Nat.le_refl _) ?_
  intro t o L2 h1 h2 h3 h4 h5 h6 h7
  rw [Nat.zero_add, Nat.zero_add] at h6
  exact ⟨o, h1, h2, h3, h4, h5, L2, h6, h7⟩
theorem am_sound (hl0 : l.stackTraces = false) : ∀ (n d : Nat) (r : aM) (pc : Nat) (L : aL) (S : List Value) (h : aH) (u : aR), am_run xs n d r pc L S h = some u →
    ∀ {p : Program} {e : Env} {R : Room} {s : State} {m : MethodId} {args : Array Value} {below : List Frame} {meth : Method} {c : Code} {H : Heap} {locs : List Loc} {cells slots : Nat} {Q : State → Prop} {ls : Array Slot}, am_Cx r B D dA E xs b p l s m meth c → am_Rel B D dA E h H → va_S (am_A B) s.heap H locs → lv_has ls r.2.2.1 (am_lm E L) →
      d + 8 ≤ R.frames → 60 * d + 200 ≤ R.locals → cells + u.2.2.1 ≤ R.cells → slots + u.2.2.2 ≤ R.slots → am_End below s B (am_Oc B D dA E s.heap u.1 u.2.1) (cells + u.2.2.1) (slots + u.2.2.2) Q → W p l e R s m args below meth c H locs cells slots Q (F0 m pc ls (S.map (am_tv E))) := by
  intro n
  induction n with
  | zero => intro d r pc L S h u hf; cases hf
  | succ n ih =>
    intro d r pc L S h u hf p e R s m args below meth c H locs cells slots Q ls Cx hR hS hl hfr hlo hc hs hend
    rw [am_run_succ] at hf
    unfold am_body at hf
    split at hf
    · cases hf
    · rename_i q hlook
      have hd : decode r.2.1 pc = .ok (q.1, q.2) := Cx.2.2.2.2.2.2.2.2.2.1 (pc, q) (am_look_mem hlook)
      obtain ⟨i, len⟩ := q
      dsimp only at hf hd
      split at hf
      · cases hf
      · rename_i t hst
        -- where it goes on, or ends
        have hkj : cells + (am_kj t).1 ≤ R.cells ∧ slots + (am_kj t).2 ≤ R.slots ∧
            (∀ n : aN, t = .inl n → ∀ (H1 : Heap) (locs1 : List Loc) (ls1 : Array Slot), am_Rel B D dA E n.2.2.2.1 H1 → va_S (am_A B) s.heap H1 locs1 → lv_has ls1 r.2.2.1 (am_lm E n.2.1) → W p l e R s m args below meth c H1 locs1 (cells + n.2.2.2.2.1) (slots + n.2.2.2.2.2) Q (F0 m n.1 ls1 (n.2.2.1.map (am_tv E)))) ∧
            (∀ u : aR, t = .inr u → am_End below s B (am_Oc B D dA E s.heap u.1 u.2.1) (cells + u.2.2.1) (slots + u.2.2.2) Q) := by
          cases t with
          | inr t =>
            cases hf
            exact ⟨hc, hs, fun n h9 => by (cases h9), fun u h9 => by cases h9; exact hend⟩
          | inl t =>
            unfold am_then at hf
            dsimp only at hf
            split at hf
            · cases hf
            · rename_i u2 hrun
              cases hf
              dsimp only at hc hs hend
              refine ⟨by show cells + t.2.2.2.2.1 ≤ _; omega, by show slots + t.2.2.2.2.2 ≤ _; omega, fun n h9 H1 locs1 ls1 hR1 hS1 hl1 => ?_, fun u h9 => by cases h9⟩
              cases h9
              exact ih d r _ _ _ _ _ hrun Cx hR1 hS1 hl1 hfr hlo (by omega) (by omega) (by rw [Nat.add_assoc, Nat.add_assoc]; exact hend)
        obtain ⟨hc', hs', kn, ke⟩ := hkj
        clear hf hend hc hs
        unfold am_step at hst
        split at hst
        · rename_i nn hsim
          cases hst
          exact am_sim_ok Cx hR hS hl hsim hd hc' hs' (kn nn rfl)
        · split at hst
          · cases hst
          · rename_i hbeq
            cases (Nat.eq_of_beq_eq_true hbeq : len = am_ilen i)
            split at hst
            · obtain ⟨v, h1, rfl⟩ := Option.map_eq_some_iff.mp hst
              exact am_ri_ok Cx hR hS h1 hd (ke _ rfl)
            · obtain ⟨v, h1, rfl⟩ := Option.map_eq_some_iff.mp hst
              exact am_ra_ok Cx hR hS h1 hd (ke _ rfl)
            · split at hst
              · rename_i h1
                cases hst
                exact am_rv_ok Cx hR hS h1 hd (ke _ rfl)
              · cases hst
            · split at hst
              · rename_i x h1
                split at hst
                · rename_i h2
                  cases hst
                  exact am_thr_ok Cx hR hS hl h1 (Nat.le_of_ble_eq_true h2) hd (by omega) (by omega) hc' hs' (ke _ rfl)
                · cases hst
              · cases hst
            · obtain ⟨v, h1, rfl⟩ := Option.map_eq_some_iff.mp hst
              exact am_ldcs_ok Cx h1 hd (kn _ rfl H locs ls hR hS hl)
            · split at hst
              · rename_i q9 h1
                cases hst
                exact am_acp_ok Cx hR hS hl h1 hd (by omega) (by omega) (fun H1 locs1 hR1 hS1 => kn _ rfl H1 locs1 ls hR1 hS1 hl)
              cases d with
              | zero => exact (am_invk_none hst).elim
              | succ d => exact am_invk_ok (kind := 0) Cx hR hS hl (by omega) hst (fun a As u2 hu hM hI hsum => am_ct hM hI hl0 (fun U h9 => by rw [h9.1]; exact Nat.le_add_right _ _) hsum (fun C1 R1 S1 L1 => ih d a 0 _ [] h u2 hu C1 R1 S1 L1)) hfr hlo hd hc' hs' kn ke
            · split at hst
              · rename_i S' h1
                cases hst
                exact am_slen_ok Cx hR hS hl h1 hd (by omega) (by omega) hc' hs' (fun H1 locs1 hR1 hS1 => kn _ rfl H1 locs1 ls hR1 hS1 hl)
              · split at hst
                · rename_i S' h1
                  cases hst
                  exact am_schr_ok Cx hR hS hl h1 hd (by omega) (by omega) hc' hs' (fun H1 locs1 hR1 hS1 => kn _ rfl H1 locs1 ls hR1 hS1 hl)
                cases d with
                | zero => exact (am_invk_none hst).elim
                | succ d => exact am_invk_ok (kind := 1) Cx hR hS hl (by omega) hst (fun a As u2 hu hM hI hsum => am_ct hM hI hl0 (fun U h9 => by rw [h9.1]; exact Nat.le_add_right _ _) hsum (fun C1 R1 S1 L1 => ih d a 0 _ [] h u2 hu C1 R1 S1 L1)) hfr hlo hd hc' hs' kn ke
            · split at hst
              · rename_i S' h1
                cases hst
                exact am_obj_ok Cx hl h1 hd (by omega) (by omega) (kn _ rfl H locs ls hR hS hl)
              · cases d with
                | zero => exact (am_invk_none hst).elim
                | succ d => exact am_invk_ok (kind := 2) Cx hR hS hl (by omega) hst (fun a As u2 hu hM hI hsum => am_ct hM hI hl0 (fun U h9 => by rw [h9.1]; exact Nat.le_add_right _ _) hsum (fun C1 R1 S1 L1 => ih d a 0 _ [] h u2 hu C1 R1 S1 L1)) hfr hlo hd hc' hs' kn ke
            · cases hst
end AmMain
end
section
/-! A LOGIC over the abstract machine: more fuel does no harm; what a run needs of its locals; a rule for each instruction -/
section AmUp
variable {xs : aX} {call call' : aM → List Value → aH → Option aR} {r : aM} {pc : Nat} {L : aL} {S : List Value} {h : aH}
theorem am_invk_up (hc : ∀ a As h u, call a As h = some u → call' a As h = some u) {kind idx : Nat} {t : aN ⊕ aR} (hf : am_invk call r kind idx pc L S h = some t) : am_invk call' r kind idx pc L S h = some t := by
  unfold am_invk at hf ⊢
  cases h1 : am_look2 am_lk r.2.2.2.2.1 idx with
  | none => simp only [h1] at hf; cases hf
  | some q =>
    simp only [h1] at hf ⊢
    cases h2 : Nat.beq q.2 kind with
    | false => simp only [h2] at hf; cases hf
    | true =>
      simp only [h2] at hf ⊢
      cases h3 : am_prog[q.1]? with
      | none => simp only [h3] at hf; cases hf
      | some a =>
        simp only [h3] at hf ⊢
        generalize (Nat.beq ((S.take (am_nar kind a)).reverse).length (am_nar kind a) && Nat.ble (am_sum (S.drop (am_nar kind a))) 8 && Nat.ble (am_sum ((S.take (am_nar kind a)).reverse)) a.2.2.1 && am_recv kind a h ((S.take (am_nar kind a)).reverse)) = bb at hf ⊢
        cases bb with
        | false => cases hf
        | true =>
          simp only at hf ⊢
          cases h5 : call a ((S.take (am_nar kind a)).reverse) h with
          | none => simp only [h5] at hf; cases hf
          | some u =>
            simp only [h5] at hf
            simp only [hc _ _ _ _ h5]
            exact hf
theorem am_step_up (hc : ∀ a As h u, call a As h = some u → call' a As h = some u) {i : Instr} {len : Nat} {t : aN ⊕ aR} (hf : am_step xs call r i len pc L S h = some t) : am_step xs call' r i len pc L S h = some t := by
  unfold am_step at hf ⊢
  cases h1 : am_sim xs r i len pc L S h with
  | some n => simp only [h1] at hf ⊢; exact hf
  | none =>
    simp only [h1] at hf ⊢
    cases h2 : Nat.beq len (am_ilen i) with
    | false => simp only [h2] at hf; cases hf
    | true =>
      simp only [h2] at hf ⊢
      split at hf
      · exact hf
      · exact hf
      · exact hf
      · exact hf
      · exact hf
      · rename_i idx
        cases h3 : am_acp r.2.2.2.2.1 idx S h with
        | some q => simp only [h3] at hf ⊢; exact hf
        | none => simp only [h3] at hf ⊢; exact am_invk_up hc hf
      · rename_i idx
        cases h3 : am_slen r.2.2.2.2.1 idx S with
        | some q => simp only [h3] at hf ⊢; exact hf
        | none =>
          simp only [h3] at hf ⊢
          cases h4 : am_schr r.2.2.2.2.1 idx S with
          | some q => simp only [h4] at hf ⊢; exact hf
          | none => simp only [h4] at hf ⊢; exact am_invk_up hc hf
      · rename_i idx
        cases h3 : am_obj r.2.2.2.2.1 idx S with
        | some q => simp only [h3] at hf ⊢; exact hf
        | none => simp only [h3] at hf ⊢; exact am_invk_up hc hf
      · cases hf
theorem am_run_up : ∀ (n d : Nat) (r : aM) (pc : Nat) (L : aL) (S : List Value) (h : aH) (u : aR), am_run xs n d r pc L S h = some u → ∀ n' d', n ≤ n' → d ≤ d' → am_run xs n' d' r pc L S h = some u := by
  intro n
  induction n with
  | zero => intro d r pc L S h u hf; cases hf
  | succ n ih =>
    intro d r pc L S h u hf n' d' hn hd
    obtain ⟨m, rfl⟩ : ∃ m, n' = m + 1 := ⟨n' - 1, by omega⟩
    rw [am_run_succ] at hf ⊢
    unfold am_body at hf ⊢
    cases h1 : am_look r.2.2.2.2.2.2.2 pc with
    | none => simp only [h1] at hf; cases hf
    | some q =>
      simp only [h1] at hf ⊢
      cases h2 : am_step xs (am_cal (am_run xs n) d) r q.1 q.2 pc L S h with
      | none => simp only [h2] at hf; cases hf
      | some t =>
        simp only [h2] at hf
        have hu : am_step xs (am_cal (am_run xs m) d') r q.1 q.2 pc L S h = some t := by
          refine am_step_up (fun a As h u hc => ?_) h2
          cases d with
          | zero => cases hc
          | succ d0 =>
            obtain ⟨d1, rfl⟩ : ∃ d1, d' = d1 + 1 := ⟨d' - 1, by omega⟩
            exact ih d0 a 0 _ [] h u hc m d1 (by omega) (by omega)
        simp only [hu]
        cases t with
        | inr t => exact hf
        | inl t =>
          unfold am_then at hf ⊢
          simp only at hf ⊢
          cases h3 : am_run xs n d r t.1 t.2.1 t.2.2.1 t.2.2.2.1 with
          | none => simp only [h3] at hf; cases hf
          | some w =>
            simp only [h3] at hf
            simp only [ih _ _ _ _ _ _ _ h3 m d' (by omega) hd]
            exact hf
end AmUp
/-- the locals that are told are there -/
def am_sub (L L' : aL) : Prop := ∀ q ∈ L, am_look L' q.1 = some q.2
def am_Qo (Q : Option Value → aH → Prop) (E : Nat → aH → Prop) : (Option Value ⊕ Nat) → aH → Prop
  | .inl v, h => Q v h
  | .inr x, h => E x h
/-- from here the run ends: it returns and Q, or throws and E; what it makes are exceptions -/
def am_T (X : List Value) (d : Nat) (r : aM) (pc : Nat) (L : aL) (S : List Value) (h : aH) (Q : Option Value → aH → Prop) (E : Nat → aH → Prop) : Prop :=
  ∀ L' : aL, am_sub L L' → ∃ n u, am_run (X, [], []) n d r pc L' S h = some u ∧ u.2.1.length = h.length + u.2.2.1 ∧ u.2.2.2 = 6 * u.2.2.1 ∧ am_Qo Q E u.1 u.2.1
section AmT
variable {X : List Value} {d : Nat} {r : aM} {pc pc1 : Nat} {L L1 : aL} {S S1 : List Value} {h h1 : aH} {Q : Option Value → aH → Prop} {E : Nat → aH → Prop}
theorem am_T.mono {Q' : Option Value → aH → Prop} {E' : Nat → aH → Prop} (ht : am_T X d r pc L S h Q E) (hQ : ∀ v h, Q v h → Q' v h) (hE : ∀ x h, E x h → E' x h) : am_T X d r pc L S h Q' E' := by
  intro L' hL
  obtain ⟨n, u, a1, a2, a3, a4⟩ := ht L' hL
  refine ⟨n, u, a1, a2, a3, ?_⟩
  obtain ⟨o, u⟩ := u
  cases o with
  | inl v => exact hQ _ _ a4
  | inr x => exact hE _ _ a4
theorem am_T.deep {d' : Nat} (ht : am_T X d r pc L S h Q E) (hd : d ≤ d') : am_T X d' r pc L S h Q E := by
  intro L' hL
  obtain ⟨n, u, a1, a2⟩ := ht L' hL
  exact ⟨n, u, am_run_up _ _ _ _ _ _ _ _ a1 _ _ (Nat.le_refl _) hd, a2⟩
theorem am_T.drop (ht : am_T X d r pc L1 S h Q E) (hs : ∀ q ∈ L1, q ∈ L) : am_T X d r pc L S h Q E := fun L' hL => ht L' (fun q hq => hL q (hs q hq))
/-- a step that calls nothing and makes nothing -/
theorem am_T1 {i : Instr} {len : Nat} (hq : am_look r.2.2.2.2.2.2.2 pc = some (i, len)) (hs : ∀ call L', am_sub L L' → ∃ L1', am_step (X, [], []) call r i len pc L' S h = some (.inl (pc1, L1', S1, h1, 0, 0)) ∧ am_sub L1 L1') (hlen : h1.length = h.length) (ht : am_T X d r pc1 L1 S1 h1 Q E) : am_T X d r pc L S h Q E := by
  intro L' hL
  obtain ⟨L1', -, hL1⟩ := hs (fun _ _ _ => none) L' hL
  clear hL1 L1'
  -- the locals behind the step do not hang on the call
  have hs' := fun call => hs call L' hL
  obtain ⟨L1', e1, hL1⟩ := hs' (fun _ _ _ => none)
  obtain ⟨n, u, a1, a2, a3, a4⟩ := ht L1' hL1
  refine ⟨n + 1, (u.1, u.2.1, 0 + u.2.2.1, 0 + u.2.2.2), ?_, by rw [a2, hlen]; show _ = h.length + (0 + u.2.2.1); omega, by show 0 + u.2.2.2 = 6 * (0 + u.2.2.1); omega, a4⟩
  rw [am_run_succ]
  unfold am_body
  simp only [hq]
  rw [am_step_up (call' := am_cal (am_run (X, [], []) n) d) (fun _ _ _ _ hc => by cases hc) e1]
  simp only [am_then, a1]
theorem am_T2 {i : Instr} {len : Nat} (hq : am_look r.2.2.2.2.2.2.2 pc = some (i, len)) (hs : ∀ L', am_sim (X, [], []) r i len pc L' S h = some (pc1, L', S1, h1, 0, 0)) (hlen : h1.length = h.length) (ht : am_T X d r pc1 L S1 h1 Q E) : am_T X d r pc L S h Q E :=
  am_T1 hq (fun call L' hL => ⟨L', by unfold am_step; rw [hs L'], hL⟩) hlen ht
/-- an end -/
theorem am_T0 {i : Instr} {len : Nat} {o : Option Value ⊕ Nat} {k : Nat} (hq : am_look r.2.2.2.2.2.2.2 pc = some (i, len)) (hs : ∀ L', am_step (X, [], []) (fun _ _ _ => none) r i len pc L' S h = some (.inr (o, h1, k, 6 * k))) (hlen : h1.length = h.length + k) (hQ : am_Qo Q E o h1) : am_T X d r pc L S h Q E := by
  intro L' hL
  refine ⟨1, (o, h1, k, 6 * k), ?_, hlen, rfl, hQ⟩
  rw [am_run_succ]
  unfold am_body
  simp only [hq]
  rw [am_step_up (call' := am_cal (am_run (X, [], []) 0) d) (fun _ _ _ _ hc => by cases hc) (hs L')]
  rfl
end AmT
end
section
/-! THE LOGIC'S RULES, one for each instruction -/
abbrev am_iv (v : Int) : Value := .int (Int32.ofInt v)
def am_rg (v : Int) : Prop := -2147483648 ≤ v ∧ v < 2147483648
theorem am_toInt {a : Int} (ha : am_rg a) : (Int32.ofInt a).toInt = a := Int32.toInt_ofInt_of_le (by have := ha.1; omega) (by have := ha.2; omega)
theorem am_iv_lt {a b : Int} (ha : am_rg a) (hb : am_rg b) : Int32.ofInt a < Int32.ofInt b ↔ a < b := by rw [Int32.lt_iff_toInt_lt, am_toInt ha, am_toInt hb]
theorem am_iv_le {a b : Int} (ha : am_rg a) (hb : am_rg b) : Int32.ofInt a ≤ Int32.ofInt b ↔ a ≤ b := by rw [Int32.le_iff_toInt_le, am_toInt ha, am_toInt hb]
theorem am_iv_eq {a b : Int} (ha : am_rg a) (hb : am_rg b) : Int32.ofInt a = Int32.ofInt b ↔ a = b := by rw [← Int32.toInt_inj, am_toInt ha, am_toInt hb]
/-- what is known of the locals behind a store -/
def am_lp (L : aL) (k : Nat) (v : Value) : aL := L.filter (fun q => Nat.blt q.1 k) ++ (k, v) :: L.filter (fun q => Nat.blt k q.1)
def am_lq (L : aL) (k : Nat) : Bool := L.all (fun q => !(Nat.beq (q.1 + 1) k && Nat.beq q.2.category 2))
theorem am_look_put {L : aL} {k j : Nat} {v w : Value} (h : am_look L j = some w) (hj : j ≠ k) (hc : ¬ (j + 1 = k ∧ w.category = 2)) : am_look (am_put L k v) j = some w := by
  unfold am_put
  have e0 : Nat.beq k j = false := by
    cases e : Nat.beq k j with
    | false => rfl
    | true => exact absurd (Nat.eq_of_beq_eq_true e).symm hj
  simp only [am_look, e0]
  induction L with
  | nil => cases h
  | cons a t ih =>
    simp only [am_look] at h
    cases e : Nat.beq a.1 j with
    | true =>
      simp only [e] at h
      cases h
      have ea := Nat.eq_of_beq_eq_true e
      have e1 : (!(a.1 == k) && !(a.1 + 1 == k && a.2.category == 2)) = true := by
        simp only [Bool.and_eq_true, Bool.not_eq_true', Bool.and_eq_false_iff, beq_eq_false_iff_ne]
        refine ⟨by omega, ?_⟩
        by_cases h9 : a.1 + 1 = k
        · exact Or.inr (fun h8 => hc ⟨by omega, h8⟩)
        · exact Or.inl h9
      rw [List.filter_cons_of_pos (p := fun (q : Nat × Value) => !(q.1 == k) && !(q.1 + 1 == k && q.2.category == 2)) e1]
      simp only [am_look, e]
    | false =>
      simp only [e] at h
      cases e1 : (!(a.1 == k) && !(a.1 + 1 == k && a.2.category == 2)) with
      | true =>
        rw [List.filter_cons_of_pos (p := fun (q : Nat × Value) => !(q.1 == k) && !(q.1 + 1 == k && q.2.category == 2)) e1]
        simp only [am_look, e]
        exact ih h
      | false =>
        rw [List.filter_cons_of_neg (p := fun (q : Nat × Value) => !(q.1 == k) && !(q.1 + 1 == k && q.2.category == 2)) (by simp only [e1]; decide)]
        exact ih h
theorem am_lp_ok {L L' : aL} (hL : am_sub L L') {k : Nat} {v : Value} (hq : am_lq L k = true) : am_sub (am_lp L k v) (am_put L' k v) := by
  intro q hm
  have old : ∀ q ∈ L, q.1 ≠ k → am_look (am_put L' k v) q.1 = some q.2 := by
    intro q h1 h2
    refine am_look_put (hL q h1) h2 (fun h9 => ?_)
    have := List.all_eq_true.mp hq q h1
    simp only [h9.1, h9.2, Nat.beq_refl] at this
    cases this
  rcases List.mem_append.mp hm with h1 | h1
  · obtain ⟨h2, h3⟩ := List.mem_filter.mp h1
    exact old q h2 (by have := Nat.le_of_ble_eq_true h3; omega)
  · rcases List.mem_cons.mp h1 with h2 | h2
    · subst h2
      show am_look ((k, v) :: _) k = some v
      simp [am_look]
    · obtain ⟨h3, h4⟩ := List.mem_filter.mp h2
      exact old q h3 (by have := Nat.le_of_ble_eq_true h4; omega)
section AmRules
variable {X : List Value} {d : Nat} {r : aM} {pc pc1 : Nat} {L L1 : aL} {S S1 : List Value} {h h1 : aH} {Q : Option Value → aH → Prop} {E : Nat → aH → Prop} {v w : Value} {k : Nat} {x y z : Int}
theorem am_riload (hq : am_look r.2.2.2.2.2.2.2 pc = some (.iload k, 2)) (hv : am_look L k = some v) (hI : am_isI v = true) (ht : am_T X d r (pc + 2) L (v :: S) h Q E) : am_T X d r pc L S h Q E :=
  am_T1 hq (fun call L' hL => ⟨L', by
    have := hL _ (am_look_mem hv)
    simp [am_step, am_sim, am_br, am_obr, am_pure, am_ld, am_chk, this, hI, am_ilen], hL⟩) rfl ht
theorem am_riload_n {k : Fin 4} (hq : am_look r.2.2.2.2.2.2.2 pc = some (.iload_n k, 1)) (hv : am_look L k.val = some v) (hI : am_isI v = true) (ht : am_T X d r (pc + 1) L (v :: S) h Q E) : am_T X d r pc L S h Q E :=
  am_T1 hq (fun call L' hL => ⟨L', by
    have := hL _ (am_look_mem hv)
    simp [am_step, am_sim, am_br, am_obr, am_pure, am_ld, am_chk, this, hI, am_ilen], hL⟩) rfl ht
theorem am_raload (hq : am_look r.2.2.2.2.2.2.2 pc = some (.aload k, 2)) (hv : am_look L k = some v) (hI : am_isR v = true) (ht : am_T X d r (pc + 2) L (v :: S) h Q E) : am_T X d r pc L S h Q E :=
  am_T1 hq (fun call L' hL => ⟨L', by
    have := hL _ (am_look_mem hv)
    simp [am_step, am_sim, am_br, am_obr, am_pure, am_ld, am_chk, this, hI, am_ilen], hL⟩) rfl ht
theorem am_raload_n {k : Fin 4} (hq : am_look r.2.2.2.2.2.2.2 pc = some (.aload_n k, 1)) (hv : am_look L k.val = some v) (hI : am_isR v = true) (ht : am_T X d r (pc + 1) L (v :: S) h Q E) : am_T X d r pc L S h Q E :=
  am_T1 hq (fun call L' hL => ⟨L', by
    have := hL _ (am_look_mem hv)
    simp [am_step, am_sim, am_br, am_obr, am_pure, am_ld, am_chk, this, hI, am_ilen], hL⟩) rfl ht
theorem am_rlload_n {k : Fin 4} (hq : am_look r.2.2.2.2.2.2.2 pc = some (.lload_n k, 1)) (hv : am_look L k.val = some v) (hI : am_isL v = true) (ht : am_T X d r (pc + 1) L (v :: S) h Q E) : am_T X d r pc L S h Q E :=
  am_T1 hq (fun call L' hL => ⟨L', by
    have := hL _ (am_look_mem hv)
    simp [am_step, am_sim, am_br, am_obr, am_pure, am_ld, am_chk, this, hI, am_ilen], hL⟩) rfl ht
theorem am_ristore (hq : am_look r.2.2.2.2.2.2.2 pc = some (.istore k, 2)) (hI : am_isI v = true) (hk : Nat.blt k r.2.2.1 = true) (hc : am_lq L k = true) (hL1 : am_lp L k v = L1) (ht : am_T X d r (pc + 2) L1 S h Q E) : am_T X d r pc L (v :: S) h Q E :=
  am_T1 hq (fun call L' hL => ⟨am_put L' k v, by
    simp [am_step, am_sim, am_br, am_obr, am_pure, am_ld, am_sto, am_hd, hI, hk, am_ilen], hL1 ▸ am_lp_ok hL hc⟩) rfl ht
theorem am_ristore_n {k : Fin 4} (hq : am_look r.2.2.2.2.2.2.2 pc = some (.istore_n k, 1)) (hI : am_isI v = true) (hk : Nat.blt k.val r.2.2.1 = true) (hc : am_lq L k.val = true) (hL1 : am_lp L k.val v = L1) (ht : am_T X d r (pc + 1) L1 S h Q E) : am_T X d r pc L (v :: S) h Q E :=
  am_T1 hq (fun call L' hL => ⟨am_put L' k.val v, by
    simp [am_step, am_sim, am_br, am_obr, am_pure, am_ld, am_sto, am_hd, hI, hk, am_ilen], hL1 ▸ am_lp_ok hL hc⟩) rfl ht
theorem am_rastore (hq : am_look r.2.2.2.2.2.2.2 pc = some (.astore k, 2)) (hI : am_isR v = true) (hk : Nat.blt k r.2.2.1 = true) (hc : am_lq L k = true) (hL1 : am_lp L k v = L1) (ht : am_T X d r (pc + 2) L1 S h Q E) : am_T X d r pc L (v :: S) h Q E :=
  am_T1 hq (fun call L' hL => ⟨am_put L' k v, by
    simp [am_step, am_sim, am_br, am_obr, am_pure, am_ld, am_sto, am_hd, hI, hk, am_ilen], hL1 ▸ am_lp_ok hL hc⟩) rfl ht
theorem am_rastore_n {k : Fin 4} (hq : am_look r.2.2.2.2.2.2.2 pc = some (.astore_n k, 1)) (hI : am_isR v = true) (hk : Nat.blt k.val r.2.2.1 = true) (hc : am_lq L k.val = true) (hL1 : am_lp L k.val v = L1) (ht : am_T X d r (pc + 1) L1 S h Q E) : am_T X d r pc L (v :: S) h Q E :=
  am_T1 hq (fun call L' hL => ⟨am_put L' k.val v, by
    simp [am_step, am_sim, am_br, am_obr, am_pure, am_ld, am_sto, am_hd, hI, hk, am_ilen], hL1 ▸ am_lp_ok hL hc⟩) rfl ht
theorem am_riinc {n : Int} (hq : am_look r.2.2.2.2.2.2.2 pc = some (.iinc k n, 3)) (hv : am_look L k = some (am_iv x)) (hk : Nat.blt k r.2.2.1 = true) (hc : am_lq L k = true) (hL1 : am_lp L k (am_iv (x + n)) = L1) (ht : am_T X d r (pc + 3) L1 S h Q E) : am_T X d r pc L S h Q E :=
  am_T1 hq (fun call L' hL => ⟨am_put L' k (am_iv (x + n)), by
    have := hL _ (am_look_mem hv)
    simp [am_step, am_sim, am_br, am_obr, am_pure, am_ld, am_sto, am_inc, this, hk, am_ilen, am_iv, Int32.ofInt_add], hL1 ▸ am_lp_ok hL hc⟩) rfl ht
theorem am_rpure {i : Instr} {len : Nat} (hq : am_look r.2.2.2.2.2.2.2 pc = some (i, len)) (hs : ∀ L', am_sim (X, [], []) r i len pc L' S h = some (pc + len, L', S1, h, 0, 0)) (ht : am_T X d r (pc + len) L S1 h Q E) : am_T X d r pc L S h Q E := am_T2 hq hs rfl ht
theorem am_riconst {n : Int} (hq : am_look r.2.2.2.2.2.2.2 pc = some (.iconst n, 1)) (ht : am_T X d r (pc + 1) L (am_iv n :: S) h Q E) : am_T X d r pc L S h Q E := am_rpure hq (fun _ => rfl) ht
theorem am_rbipush {n : Int} (hq : am_look r.2.2.2.2.2.2.2 pc = some (.bipush n, 2)) (hn : (Int8.ofInt n).toInt32 = Int32.ofInt n) (ht : am_T X d r (pc + 2) L (am_iv n :: S) h Q E) : am_T X d r pc L S h Q E := am_rpure hq (fun _ => by simp [am_sim, am_br, am_obr, am_pure, am_ilen, hn]) ht
theorem am_rsipush {n : Int} (hq : am_look r.2.2.2.2.2.2.2 pc = some (.sipush n, 3)) (hn : (Int16.ofInt n).toInt32 = Int32.ofInt n) (ht : am_T X d r (pc + 3) L (am_iv n :: S) h Q E) : am_T X d r pc L S h Q E := am_rpure hq (fun _ => by simp [am_sim, am_br, am_obr, am_pure, am_ilen, hn]) ht
theorem am_riadd (hq : am_look r.2.2.2.2.2.2.2 pc = some (.iadd, 1)) (ht : am_T X d r (pc + 1) L (am_iv (x + y) :: S) h Q E) : am_T X d r pc L (am_iv y :: am_iv x :: S) h Q E := am_rpure hq (fun _ => by simp [am_sim, am_br, am_obr, am_pure, am_ii, am_ilen, Int32.ofInt_add]) ht
theorem am_risub (hq : am_look r.2.2.2.2.2.2.2 pc = some (.isub, 1)) (ht : am_T X d r (pc + 1) L (am_iv (x - y) :: S) h Q E) : am_T X d r pc L (am_iv y :: am_iv x :: S) h Q E := am_rpure hq (fun _ => by simp [am_sim, am_br, am_obr, am_pure, am_ii, am_ilen, Int32.ofInt_sub]) ht
theorem am_rimul (hq : am_look r.2.2.2.2.2.2.2 pc = some (.imul, 1)) (ht : am_T X d r (pc + 1) L (am_iv (x * y) :: S) h Q E) : am_T X d r pc L (am_iv y :: am_iv x :: S) h Q E := am_rpure hq (fun _ => by simp [am_sim, am_br, am_obr, am_pure, am_ii, am_ilen, Int32.ofInt_mul]) ht
theorem am_rineg (hq : am_look r.2.2.2.2.2.2.2 pc = some (.ineg, 1)) (ht : am_T X d r (pc + 1) L (am_iv (-x) :: S) h Q E) : am_T X d r pc L (am_iv x :: S) h Q E := am_rpure hq (fun _ => by simp [am_sim, am_br, am_obr, am_pure, am_neg, am_ilen, Int32.ofInt_neg]) ht
def am_and (x y : Int) : Int := (Int32.ofInt x &&& Int32.ofInt y).toInt
def am_or (x y : Int) : Int := (Int32.ofInt x ||| Int32.ofInt y).toInt
def am_shl (x y : Int) : Int := (Int32.ofInt x <<< (Int32.ofInt y &&& 31)).toInt
def am_shr (x y : Int) : Int := (Int32.ofInt x >>> (Int32.ofInt y &&& 31)).toInt
theorem am_riand (hq : am_look r.2.2.2.2.2.2.2 pc = some (.iand, 1)) (ht : am_T X d r (pc + 1) L (am_iv (am_and x y) :: S) h Q E) : am_T X d r pc L (am_iv y :: am_iv x :: S) h Q E := am_rpure hq (fun _ => by simp [am_sim, am_br, am_obr, am_pure, am_ii, am_ilen, am_and, Int32.ofInt_toInt]) ht
theorem am_rior (hq : am_look r.2.2.2.2.2.2.2 pc = some (.ior, 1)) (ht : am_T X d r (pc + 1) L (am_iv (am_or x y) :: S) h Q E) : am_T X d r pc L (am_iv y :: am_iv x :: S) h Q E := am_rpure hq (fun _ => by simp [am_sim, am_br, am_obr, am_pure, am_ii, am_ilen, am_or, Int32.ofInt_toInt]) ht
theorem am_rishl (hq : am_look r.2.2.2.2.2.2.2 pc = some (.ishl, 1)) (ht : am_T X d r (pc + 1) L (am_iv (am_shl x y) :: S) h Q E) : am_T X d r pc L (am_iv y :: am_iv x :: S) h Q E := am_rpure hq (fun _ => by simp [am_sim, am_br, am_obr, am_pure, am_ii, am_ilen, am_shl, Int32.ofInt_toInt]) ht
theorem am_rishr (hq : am_look r.2.2.2.2.2.2.2 pc = some (.ishr, 1)) (ht : am_T X d r (pc + 1) L (am_iv (am_shr x y) :: S) h Q E) : am_T X d r pc L (am_iv y :: am_iv x :: S) h Q E := am_rpure hq (fun _ => by simp [am_sim, am_br, am_obr, am_pure, am_ii, am_ilen, am_shr, Int32.ofInt_toInt]) ht
theorem am_rdup (hq : am_look r.2.2.2.2.2.2.2 pc = some (.dup, 1)) (hv : v.category = 1) (ht : am_T X d r (pc + 1) L (v :: v :: S) h Q E) : am_T X d r pc L (v :: S) h Q E := am_rpure hq (fun _ => by simp [am_sim, am_br, am_obr, am_pure, am_dup, am_ilen, hv]) ht
theorem am_rpop (hq : am_look r.2.2.2.2.2.2.2 pc = some (.pop, 1)) (hv : v.category = 1) (ht : am_T X d r (pc + 1) L S h Q E) : am_T X d r pc L (v :: S) h Q E := am_rpure hq (fun _ => by simp [am_sim, am_br, am_obr, am_pure, am_pop, am_ilen, hv]) ht
theorem am_rdup2 (hq : am_look r.2.2.2.2.2.2.2 pc = some (.dup2, 1)) (hv : v.category = 1) (hw : w.category = 1) (ht : am_T X d r (pc + 1) L (v :: w :: v :: w :: S) h Q E) : am_T X d r pc L (v :: w :: S) h Q E := am_rpure hq (fun _ => by simp [am_sim, am_br, am_obr, am_pure, am_dup2, am_ilen, hv, hw]) ht
end AmRules
end
section
/-! THE LOGIC'S RULES: branches, heap, calls, ends -/
section AmRules2
variable {X : List Value} {d : Nat} {r : aM} {pc pc1 g : Nat} {L L1 : aL} {S S1 : List Value} {h h1 : aH} {Q : Option Value → aH → Prop} {E : Nat → aH → Prop} {v w : Value} {k : Nat} {x y z : Int} {off : Int} {idx : Nat}
theorem am_rif {c : ClassFile.Cond} {b : Bool} (hq : am_look r.2.2.2.2.2.2.2 pc = some (.ifCond c off, 3)) (hg : am_tgt pc off = some g) (hb : am_cnd c (Int32.ofInt x) 0 = b) (ht : am_T X d r (bif b then g else pc + 3) L S h Q E) : am_T X d r pc L (am_iv x :: S) h Q E :=
  am_T2 hq (fun _ => by simp [am_sim, am_br, am_b1, am_go, hg, hb, am_ilen]) rfl ht
theorem am_rif2 {c : ClassFile.Cond} {b : Bool} (hq : am_look r.2.2.2.2.2.2.2 pc = some (.if_icmp c off, 3)) (hg : am_tgt pc off = some g) (hb : am_cnd c (Int32.ofInt x) (Int32.ofInt y) = b) (ht : am_T X d r (bif b then g else pc + 3) L S h Q E) : am_T X d r pc L (am_iv y :: am_iv x :: S) h Q E :=
  am_T2 hq (fun _ => by simp [am_sim, am_br, am_b2, am_go, hg, hb, am_ilen]) rfl ht
theorem am_rg0 : am_rg 0 := by constructor <;> omega
theorem am_rgoto (hq : am_look r.2.2.2.2.2.2.2 pc = some (.goto off, 3)) (hg : am_tgt pc off = some g) (ht : am_T X d r g L S h Q E) : am_T X d r pc L S h Q E :=
  am_T2 hq (fun _ => by simp [am_sim, am_br, am_go, hg, am_ilen]) rfl ht
theorem am_cnd_eq (hx : am_rg x) (hy : am_rg y) : (am_cnd .eq (Int32.ofInt x) (Int32.ofInt y) = true ↔ x = y) := by
  show decide _ = true ↔ _
  rw [decide_eq_true_iff]
  exact am_iv_eq hx hy
theorem am_ric_eq (hq : am_look r.2.2.2.2.2.2.2 pc = some (.if_icmp .eq off, 3)) (hg : am_tgt pc off = some g) (hx : am_rg x) (hy : am_rg y) (h1 : x = y → am_T X d r g L S h Q E) (h2 : x ≠ y → am_T X d r (pc + 3) L S h Q E) : am_T X d r pc L (am_iv y :: am_iv x :: S) h Q E := by
  cases hb : am_cnd .eq (Int32.ofInt x) (Int32.ofInt y) with
  | true => exact am_rif2 hq hg hb (h1 ((am_cnd_eq hx hy).mp hb))
  | false => exact am_rif2 hq hg hb (h2 (by have := mt (am_cnd_eq hx hy).mpr (by rw [hb]; decide); omega))
theorem am_rif_eq (hq : am_look r.2.2.2.2.2.2.2 pc = some (.ifCond .eq off, 3)) (hg : am_tgt pc off = some g) (hx : am_rg x) (h1 : x = 0 → am_T X d r g L S h Q E) (h2 : x ≠ 0 → am_T X d r (pc + 3) L S h Q E) : am_T X d r pc L (am_iv x :: S) h Q E := by
  cases hb : am_cnd .eq (Int32.ofInt x) 0 with
  | true => exact am_rif hq hg hb (h1 ((am_cnd_eq hx am_rg0).mp hb))
  | false => exact am_rif hq hg hb (h2 (by have := mt (am_cnd_eq hx am_rg0).mpr (by rw [show (Int32.ofInt 0) = 0 from rfl, hb]; decide); omega))
theorem am_cnd_ne (hx : am_rg x) (hy : am_rg y) : (am_cnd .ne (Int32.ofInt x) (Int32.ofInt y) = true ↔ x ≠ y) := by
  show decide _ = true ↔ _
  rw [decide_eq_true_iff]
  exact not_congr (am_iv_eq hx hy)
theorem am_ric_ne (hq : am_look r.2.2.2.2.2.2.2 pc = some (.if_icmp .ne off, 3)) (hg : am_tgt pc off = some g) (hx : am_rg x) (hy : am_rg y) (h1 : x ≠ y → am_T X d r g L S h Q E) (h2 : x = y → am_T X d r (pc + 3) L S h Q E) : am_T X d r pc L (am_iv y :: am_iv x :: S) h Q E := by
  cases hb : am_cnd .ne (Int32.ofInt x) (Int32.ofInt y) with
  | true => exact am_rif2 hq hg hb (h1 ((am_cnd_ne hx hy).mp hb))
  | false => exact am_rif2 hq hg hb (h2 (by have := mt (am_cnd_ne hx hy).mpr (by rw [hb]; decide); omega))
theorem am_rif_ne (hq : am_look r.2.2.2.2.2.2.2 pc = some (.ifCond .ne off, 3)) (hg : am_tgt pc off = some g) (hx : am_rg x) (h1 : x ≠ 0 → am_T X d r g L S h Q E) (h2 : x = 0 → am_T X d r (pc + 3) L S h Q E) : am_T X d r pc L (am_iv x :: S) h Q E := by
  cases hb : am_cnd .ne (Int32.ofInt x) 0 with
  | true => exact am_rif hq hg hb (h1 ((am_cnd_ne hx am_rg0).mp hb))
  | false => exact am_rif hq hg hb (h2 (by have := mt (am_cnd_ne hx am_rg0).mpr (by rw [show (Int32.ofInt 0) = 0 from rfl, hb]; decide); omega))
theorem am_cnd_lt (hx : am_rg x) (hy : am_rg y) : (am_cnd .lt (Int32.ofInt x) (Int32.ofInt y) = true ↔ x < y) := by
  show decide _ = true ↔ _
  rw [decide_eq_true_iff]
  exact am_iv_lt hx hy
theorem am_ric_lt (hq : am_look r.2.2.2.2.2.2.2 pc = some (.if_icmp .lt off, 3)) (hg : am_tgt pc off = some g) (hx : am_rg x) (hy : am_rg y) (h1 : x < y → am_T X d r g L S h Q E) (h2 : y ≤ x → am_T X d r (pc + 3) L S h Q E) : am_T X d r pc L (am_iv y :: am_iv x :: S) h Q E := by
  cases hb : am_cnd .lt (Int32.ofInt x) (Int32.ofInt y) with
  | true => exact am_rif2 hq hg hb (h1 ((am_cnd_lt hx hy).mp hb))
  | false => exact am_rif2 hq hg hb (h2 (by have := mt (am_cnd_lt hx hy).mpr (by rw [hb]; decide); omega))
theorem am_rif_lt (hq : am_look r.2.2.2.2.2.2.2 pc = some (.ifCond .lt off, 3)) (hg : am_tgt pc off = some g) (hx : am_rg x) (h1 : x < 0 → am_T X d r g L S h Q E) (h2 : 0 ≤ x → am_T X d r (pc + 3) L S h Q E) : am_T X d r pc L (am_iv x :: S) h Q E := by
  cases hb : am_cnd .lt (Int32.ofInt x) 0 with
  | true => exact am_rif hq hg hb (h1 ((am_cnd_lt hx am_rg0).mp hb))
  | false => exact am_rif hq hg hb (h2 (by have := mt (am_cnd_lt hx am_rg0).mpr (by rw [show (Int32.ofInt 0) = 0 from rfl, hb]; decide); omega))
theorem am_cnd_ge (hx : am_rg x) (hy : am_rg y) : (am_cnd .ge (Int32.ofInt x) (Int32.ofInt y) = true ↔ y ≤ x) := by
  show decide _ = true ↔ _
  rw [decide_eq_true_iff]
  exact am_iv_le hy hx
theorem am_ric_ge (hq : am_look r.2.2.2.2.2.2.2 pc = some (.if_icmp .ge off, 3)) (hg : am_tgt pc off = some g) (hx : am_rg x) (hy : am_rg y) (h1 : y ≤ x → am_T X d r g L S h Q E) (h2 : x < y → am_T X d r (pc + 3) L S h Q E) : am_T X d r pc L (am_iv y :: am_iv x :: S) h Q E := by
  cases hb : am_cnd .ge (Int32.ofInt x) (Int32.ofInt y) with
  | true => exact am_rif2 hq hg hb (h1 ((am_cnd_ge hx hy).mp hb))
  | false => exact am_rif2 hq hg hb (h2 (by have := mt (am_cnd_ge hx hy).mpr (by rw [hb]; decide); omega))
theorem am_rif_ge (hq : am_look r.2.2.2.2.2.2.2 pc = some (.ifCond .ge off, 3)) (hg : am_tgt pc off = some g) (hx : am_rg x) (h1 : 0 ≤ x → am_T X d r g L S h Q E) (h2 : x < 0 → am_T X d r (pc + 3) L S h Q E) : am_T X d r pc L (am_iv x :: S) h Q E := by
  cases hb : am_cnd .ge (Int32.ofInt x) 0 with
  | true => exact am_rif hq hg hb (h1 ((am_cnd_ge hx am_rg0).mp hb))
  | false => exact am_rif hq hg hb (h2 (by have := mt (am_cnd_ge hx am_rg0).mpr (by rw [show (Int32.ofInt 0) = 0 from rfl, hb]; decide); omega))
theorem am_cnd_gt (hx : am_rg x) (hy : am_rg y) : (am_cnd .gt (Int32.ofInt x) (Int32.ofInt y) = true ↔ y < x) := by
  show decide _ = true ↔ _
  rw [decide_eq_true_iff]
  exact am_iv_lt hy hx
theorem am_ric_gt (hq : am_look r.2.2.2.2.2.2.2 pc = some (.if_icmp .gt off, 3)) (hg : am_tgt pc off = some g) (hx : am_rg x) (hy : am_rg y) (h1 : y < x → am_T X d r g L S h Q E) (h2 : x ≤ y → am_T X d r (pc + 3) L S h Q E) : am_T X d r pc L (am_iv y :: am_iv x :: S) h Q E := by
  cases hb : am_cnd .gt (Int32.ofInt x) (Int32.ofInt y) with
  | true => exact am_rif2 hq hg hb (h1 ((am_cnd_gt hx hy).mp hb))
  | false => exact am_rif2 hq hg hb (h2 (by have := mt (am_cnd_gt hx hy).mpr (by rw [hb]; decide); omega))
theorem am_rif_gt (hq : am_look r.2.2.2.2.2.2.2 pc = some (.ifCond .gt off, 3)) (hg : am_tgt pc off = some g) (hx : am_rg x) (h1 : 0 < x → am_T X d r g L S h Q E) (h2 : x ≤ 0 → am_T X d r (pc + 3) L S h Q E) : am_T X d r pc L (am_iv x :: S) h Q E := by
  cases hb : am_cnd .gt (Int32.ofInt x) 0 with
  | true => exact am_rif hq hg hb (h1 ((am_cnd_gt hx am_rg0).mp hb))
  | false => exact am_rif hq hg hb (h2 (by have := mt (am_cnd_gt hx am_rg0).mpr (by rw [show (Int32.ofInt 0) = 0 from rfl, hb]; decide); omega))
theorem am_cnd_le (hx : am_rg x) (hy : am_rg y) : (am_cnd .le (Int32.ofInt x) (Int32.ofInt y) = true ↔ x ≤ y) := by
  show decide _ = true ↔ _
  rw [decide_eq_true_iff]
  exact am_iv_le hx hy
theorem am_ric_le (hq : am_look r.2.2.2.2.2.2.2 pc = some (.if_icmp .le off, 3)) (hg : am_tgt pc off = some g) (hx : am_rg x) (hy : am_rg y) (h1 : x ≤ y → am_T X d r g L S h Q E) (h2 : y < x → am_T X d r (pc + 3) L S h Q E) : am_T X d r pc L (am_iv y :: am_iv x :: S) h Q E := by
  cases hb : am_cnd .le (Int32.ofInt x) (Int32.ofInt y) with
  | true => exact am_rif2 hq hg hb (h1 ((am_cnd_le hx hy).mp hb))
  | false => exact am_rif2 hq hg hb (h2 (by have := mt (am_cnd_le hx hy).mpr (by rw [hb]; decide); omega))
theorem am_rif_le (hq : am_look r.2.2.2.2.2.2.2 pc = some (.ifCond .le off, 3)) (hg : am_tgt pc off = some g) (hx : am_rg x) (h1 : x ≤ 0 → am_T X d r g L S h Q E) (h2 : 0 < x → am_T X d r (pc + 3) L S h Q E) : am_T X d r pc L (am_iv x :: S) h Q E := by
  cases hb : am_cnd .le (Int32.ofInt x) 0 with
  | true => exact am_rif hq hg hb (h1 ((am_cnd_le hx am_rg0).mp hb))
  | false => exact am_rif hq hg hb (h2 (by have := mt (am_cnd_le hx am_rg0).mpr (by rw [show (Int32.ofInt 0) = 0 from rfl, hb]; decide); omega))
theorem am_rsw {dd lo hi : Int} {offs : Array Int} {len : Nat} (hq : am_look r.2.2.2.2.2.2.2 pc = some (.tableswitch dd lo hi offs, len)) (hx : am_rg x) (hg : am_tgt pc dd = some g) (h0 : (x < lo ∨ hi < x) → am_T X d r g L S h Q E) (h1 : lo ≤ x → x ≤ hi → ∃ o g1, offs[(x - lo).toNat]? = some o ∧ am_tgt pc o = some g1 ∧ am_T X d r g1 L S h Q E) : am_T X d r pc L (am_iv x :: S) h Q E := by
  by_cases hc : x < lo ∨ hi < x
  · refine am_T2 (h1 := h) (pc1 := g) (S1 := S) hq (fun _ => ?_) rfl (h0 hc)
    simp [am_sim, am_br, am_sw, am_go, hg, am_toInt hx, hc, am_isT]
  · obtain ⟨o, g1, a1, a2, a3⟩ := h1 (by omega) (by omega)
    refine am_T2 (h1 := h) (pc1 := g1) (S1 := S) hq (fun _ => ?_) rfl a3
    simp [am_sim, am_br, am_sw, am_go, a1, a2, am_toInt hx, hc, am_isT]
-- the heap
theorem am_rgetf (hq : am_look r.2.2.2.2.2.2.2 pc = some (.getfield idx, 3)) (hf : am_getf r.2.2.2.2.1 idx S h = some S1) (ht : am_T X d r (pc + 3) L S1 h Q E) : am_T X d r pc L S h Q E :=
  am_T2 hq (fun _ => by simp [am_sim, am_br, am_obr, am_pure, am_ld, am_sto, hf, am_ilen]) rfl ht
theorem am_rputf (hq : am_look r.2.2.2.2.2.2.2 pc = some (.putfield idx, 3)) (hf : am_putf r.2.2.2.2.1 (decide (r.1.name = "<init>")) idx S h = some (S1, h1)) (hlen : h1.length = h.length) (ht : am_T X d r (pc + 3) L S1 h1 Q E) : am_T X d r pc L S h Q E :=
  am_T2 hq (fun _ => by simp [am_sim, am_br, am_obr, am_pure, am_ld, am_sto, hf, am_ilen]) hlen ht
def am_ib (l : List Int) (x : Int) : Prop := 0 ≤ x ∧ x < l.length ∧ x < 2147483648
def am_at (l : List Int) (x : Int) : Int := l.getD x.toNat 0
theorem am_ixN (h0 : 0 ≤ x) (h1 : x < 2147483648) : decide (Int32.ofInt x < 0) = false ∧ (Int32.ofInt x).toNatClampNeg = x.toNat := by
  have hr : am_rg x := ⟨by omega, h1⟩
  refine ⟨?_, ?_⟩
  · rw [decide_eq_false_iff_not, show (0 : Int32) = Int32.ofInt 0 from rfl, am_iv_lt hr am_rg0]; omega
  · show (Int32.ofInt x).toInt.toNat = _
    rw [am_toInt hr]
theorem am_ix_at {l : List Int} (hi : am_ib l x) : am_ix (Int32.ofInt x) (l.map am_iv) = some (am_iv (am_at l x)) := by
  obtain ⟨h0, h1, h2⟩ := hi
  obtain ⟨e1, e2⟩ := am_ixN h0 h2
  have hlt : x.toNat < l.length := by omega
  unfold am_ix am_at
  rw [e1, e2, List.getD_eq_getElem?_getD]
  simp [hlt]
theorem am_rald {tk : Nat} {l : List Int} (hg : am_get h k = some (true, tk, l.map am_iv)) (hi : am_ib l x) : am_ald X tk (am_iv x :: .ref k :: S) h = some (am_iv (am_at l x) :: S) := by
  simp only [am_ald, hg, am_ix_at hi]
  simp
theorem am_riaload {l : List Int} (hq : am_look r.2.2.2.2.2.2.2 pc = some (.iaload, 1)) (hg : am_get h k = some (true, 0, l.map am_iv)) (hi : am_ib l x) (ht : am_T X d r (pc + 1) L (am_iv (am_at l x) :: S) h Q E) : am_T X d r pc L (am_iv x :: .ref k :: S) h Q E :=
  am_T2 hq (fun _ => by simp [am_sim, am_br, am_obr, am_pure, am_ld, am_sto, am_rald hg hi, am_ilen]) rfl ht
theorem am_rbaload {l : List Int} (hq : am_look r.2.2.2.2.2.2.2 pc = some (.baload, 1)) (hg : am_get h k = some (true, 1, l.map am_iv)) (hi : am_ib l x) (ht : am_T X d r (pc + 1) L (am_iv (am_at l x) :: S) h Q E) : am_T X d r pc L (am_iv x :: .ref k :: S) h Q E :=
  am_T2 hq (fun _ => by simp [am_sim, am_br, am_obr, am_pure, am_ld, am_sto, am_rald hg hi, am_ilen]) rfl ht
theorem am_raaload (hq : am_look r.2.2.2.2.2.2.2 pc = some (.aaload, 1)) (hf : am_ald X 3 S h = some S1) (ht : am_T X d r (pc + 1) L S1 h Q E) : am_T X d r pc L S h Q E :=
  am_T2 hq (fun _ => by simp [am_sim, am_br, am_obr, am_pure, am_ld, am_sto, hf, am_ilen]) rfl ht
theorem am_set_map (l : List Int) (n : Nat) (v : Int) : (l.map am_iv).set n (am_iv v) = (l.set n v).map am_iv := by rw [List.map_set]
theorem am_riastore {l : List Int} (hq : am_look r.2.2.2.2.2.2.2 pc = some (.iastore, 1)) (hg : am_get h k = some (true, 0, l.map am_iv)) (hi : am_ib l x) (hh : h.set k (some (true, 0, (l.set x.toNat y).map am_iv)) = h1) (ht : am_T X d r (pc + 1) L S h1 Q E) : am_T X d r pc L (am_iv y :: am_iv x :: .ref k :: S) h Q E := by
  obtain ⟨h0, h2, h3⟩ := hi
  obtain ⟨e1, e2⟩ := am_ixN h0 h3
  have hlt : x.toNat < l.length := by omega
  have hf : am_ast 0 (am_iv y :: am_iv x :: .ref k :: S) h = some (S, h1) := by
    simp only [am_ast, hg, e1, e2, List.length_map]
    rw [show (Nat.beq 0 0 && !false && Nat.blt x.toNat l.length) = true by simp [hlt]]
    simp only [am_elt, am_el0, am_isI, am_set_map, hh]
  exact am_T2 hq (fun _ => by simp [am_sim, am_br, am_obr, am_pure, am_ld, am_sto, hf, am_ilen]) (by rw [← hh, List.length_set]) ht
theorem am_rbastore {l : List Int} (hq : am_look r.2.2.2.2.2.2.2 pc = some (.bastore, 1)) (hg : am_get h k = some (true, 1, l.map am_iv)) (hi : am_ib l x) (hy : y = 0 ∨ y = 1) (hh : h.set k (some (true, 1, (l.set x.toNat y).map am_iv)) = h1) (ht : am_T X d r (pc + 1) L S h1 Q E) : am_T X d r pc L (am_iv y :: am_iv x :: .ref k :: S) h Q E := by
  obtain ⟨h0, h2, h3⟩ := hi
  obtain ⟨e1, e2⟩ := am_ixN h0 h3
  have hlt : x.toNat < l.length := by omega
  have ey : Int32.ofInt y &&& 1 = Int32.ofInt y := by rcases hy with rfl | rfl <;> decide
  have hf : am_ast 1 (am_iv y :: am_iv x :: .ref k :: S) h = some (S, h1) := by
    simp only [am_ast, hg, e1, e2, List.length_map]
    rw [show (Nat.beq 1 1 && !false && Nat.blt x.toNat l.length) = true by simp [hlt]]
    simp only [am_elt, am_el1, ey, am_set_map, hh]
  exact am_T2 hq (fun _ => by simp [am_sim, am_br, am_obr, am_pure, am_ld, am_sto, hf, am_ilen]) (by rw [← hh, List.length_set]) ht
theorem am_rlen {tk : Nat} {l : List Value} (hq : am_look r.2.2.2.2.2.2.2 pc = some (.arraylength, 1)) (hg : am_get h k = some (true, tk, l)) (ht : am_T X d r (pc + 1) L (am_iv (l.length : Int) :: S) h Q E) : am_T X d r pc L (.ref k :: S) h Q E :=
  am_T2 hq (fun _ => by simp [am_sim, am_br, am_obr, am_pure, am_ld, am_sto, am_len, hg, am_ilen, Int32.ofInt_eq_ofNat]) rfl ht
-- ends
theorem am_riret (hq : am_look r.2.2.2.2.2.2.2 pc = some (.ireturn, 1)) (hr : am_ri r.2.2.2.1 [v] = some v) (hQ : Q (some v) h) : am_T X d r pc L [v] h Q E :=
  am_T0 (k := 0) (o := .inl (some v)) (h1 := h) hq (fun _ => by simp [am_step, am_sim, am_br, am_obr, am_pure, am_ld, am_sto, am_sym, am_sym1, am_sym2, am_fy, hr, am_ilen]) rfl hQ
theorem am_raret (hq : am_look r.2.2.2.2.2.2.2 pc = some (.areturn, 1)) (hr : am_ra r.2.2.2.1 [v] = some v) (hQ : Q (some v) h) : am_T X d r pc L [v] h Q E :=
  am_T0 (k := 0) (o := .inl (some v)) (h1 := h) hq (fun _ => by simp [am_step, am_sim, am_br, am_obr, am_pure, am_ld, am_sto, am_sym, am_sym1, am_sym2, am_fy, hr, am_ilen]) rfl hQ
theorem am_rret (hq : am_look r.2.2.2.2.2.2.2 pc = some (.return_, 1)) (hr : am_rv r.2.2.2.1 [] = true) (hQ : Q none h) : am_T X d r pc L [] h Q E :=
  am_T0 (k := 0) (o := .inl none) (h1 := h) hq (fun _ => by simp [am_step, am_sim, am_br, am_obr, am_pure, am_ld, am_sto, am_sym, am_sym1, am_sym2, am_fy, hr, am_ilen]) rfl hQ
theorem am_rthrow {ik c : Nat} (hq : am_look r.2.2.2.2.2.2.2 pc = some (.new ik, 3)) (hn : am_look2 am_nw r.2.2.2.2.1 ik = none) (ht : am_thr r ik pc = some c) (hs : Nat.ble (am_sum S) 8 = true) (hE : E c (h ++ [none])) : am_T X d r pc L S h Q E :=
  am_T0 (k := 1) (o := .inr c) (h1 := h ++ [none]) hq (fun _ => by simp [am_step, am_sim, am_br, am_obr, am_pure, am_ld, am_sto, am_new, hn, ht, hs, am_ilen]) (by simp) hE
end AmRules2
end
section
/-! THE LOGIC'S RULES: calls, Strings, constants, longs -/
theorem am_args_lo : ∀ (vs : List Value) (i : Nat), ∀ q ∈ lv_args i vs, i ≤ q.1
  | [], _ => fun q h => by cases h
  | v :: vs, i => fun q h => by
    rcases List.mem_cons.mp h with h1 | h1
    · rw [h1]; exact Nat.le_refl _
    · have := am_args_lo vs _ q h1
      split at this <;> omega
theorem am_sym_nil (i : Instr) (S : List Value) : am_sym [] i S = none := by
  unfold am_sym
  rcases S with _ | ⟨a, _ | ⟨b, T⟩⟩
  · rfl
  · rfl
  · simp only [am_sym2, am_sym1, am_fy]
    cases decide (b = Value.null) <;> rfl
theorem am_args_sub : ∀ (vs : List Value) (i : Nat), am_sub (lv_args i vs) (lv_args i vs)
  | [], _ => fun q h => by cases h
  | v :: vs, i => fun q h => by
    rcases List.mem_cons.mp h with h1 | h1
    · rw [h1]
      show am_look ((i, v) :: _) i = some v
      simp [am_look]
    · have h2 := am_args_lo vs _ q h1
      have h3 := am_args_sub vs _ q h1
      have h4 : i < q.1 := by split at h2 <;> omega
      show am_look ((i, v) :: _) q.1 = some q.2
      have h5 : Nat.beq i q.1 = false := by
        cases e : Nat.beq i q.1 with
        | false => rfl
        | true =>
          have := Nat.eq_of_beq_eq_true e
          exfalso; omega
      simp only [am_look, h5]
      exact h3
/-- behind a throw out of a call: a handler, or out -/
def am_Th (X : List Value) (d : Nat) (r : aM) (pc : Nat) (L : aL) (Q : Option Value → aH → Prop) (E : Nat → aH → Prop) (x : Nat) (h' : aH) : Prop := match am_hand r.2.2.2.2.1 pc x r.2.2.2.2.2.1 with
  | none => False
  | some none => E x h'
  | some (some hp) => h'.length - 1 < 1000000 ∧ am_T X d r hp L [.ref (h'.length - 1)] h' Q E
section AmRules3
variable {X : List Value} {d : Nat} {r : aM} {pc pc1 g : Nat} {L L1 : aL} {S S1 : List Value} {h h1 : aH} {Q : Option Value → aH → Prop} {E : Nat → aH → Prop} {v w : Value} {k : Nat} {x y z : Int} {idx : Nat}
theorem am_rinvk {i : Instr} {kind : Nat} {m : Nat} {a : aM} {As : List Value} (hq : am_look r.2.2.2.2.2.2.2 pc = some (i, 3)) (hi : ∀ call L', am_step (X, [], []) call r i 3 pc L' S h = am_invk call r kind idx pc L' S h)
    (hlk : am_look2 am_lk r.2.2.2.2.1 idx = some (m, kind)) (hm : am_prog[m]? = some a) (hA : (S.take (am_nar kind a)).reverse = As) (hS : S.drop (am_nar kind a) = S1)
    (hc : (Nat.beq As.length (am_nar kind a) && Nat.ble (am_sum S1) 8 && Nat.ble (am_sum As) a.2.2.1) = true) (hrc : am_recv kind a h As = true)
    (ht : am_T X d a 0 (lv_args 0 As) [] h (fun v h' => am_T X (d + 1) r (pc + 3) L (v.toList ++ S1) h' Q E) (am_Th X (d + 1) r pc L Q E)) : am_T X (d + 1) r pc L S h Q E := by
  intro L' hL
  obtain ⟨n1, u1, a1, a2, a3, a4⟩ := ht (lv_args 0 As) (am_args_sub As 0)
  have step : ∀ n, n1 ≤ n → am_step (X, [], []) (am_cal (am_run (X, [], []) n) (d + 1)) r i 3 pc L' S h = am_beh2 r pc L' S1 u1 := by
    intro n hn
    rw [hi]
    unfold am_invk
    have hb : Nat.beq kind kind = true := Nat.beq_refl kind
    simp only [hlk, hm, hA, hS, hc, hrc, hb, Bool.and_self]
    rw [show am_cal (am_run (X, [], []) n) (d + 1) a As h = some u1 from am_run_up _ _ _ _ _ _ _ _ a1 n d hn (Nat.le_refl _)]
  obtain ⟨o, h', kk, jj⟩ := u1
  have go : ∀ (pc9 : Nat) (S9 : List Value), am_beh2 r pc L' S1 (o, h', kk, jj) = some (.inl (pc9, L', S9, h', kk, jj)) → am_T X (d + 1) r pc9 L S9 h' Q E → ∃ n u, am_run (X, [], []) n (d + 1) r pc L' S h = some u ∧ u.2.1.length = h.length + u.2.2.1 ∧ u.2.2.2 = 6 * u.2.2.1 ∧ am_Qo Q E u.1 u.2.1 := by
    intro pc9 S9 e9 t9
    obtain ⟨n2, u2, b1, b2, b3, b4⟩ := t9 L' hL
    refine ⟨max n1 n2 + 1, (u2.1, u2.2.1, kk + u2.2.2.1, jj + u2.2.2.2), ?_, ?_, ?_, b4⟩
    · rw [am_run_succ]
      unfold am_body
      simp only [hq]
      rw [step _ (Nat.le_max_left _ _), e9]
      simp only [am_then, am_run_up _ _ _ _ _ _ _ _ b1 (max n1 n2) (d + 1) (Nat.le_max_right _ _) (Nat.le_refl _)]
    · have a2' : h'.length = h.length + kk := a2
      show u2.2.1.length = h.length + (kk + u2.2.2.1)
      omega
    · have a3' : jj = 6 * kk := a3
      show jj + u2.2.2.2 = 6 * (kk + u2.2.2.1)
      omega
  cases o with
  | inl v => exact go (pc + 3) (v.toList ++ S1) rfl a4
  | inr x =>
    have a4' : am_Th X (d + 1) r pc L Q E x h' := a4
    unfold am_Th at a4'
    cases hh : am_hand r.2.2.2.2.1 pc x r.2.2.2.2.2.1 with
    | none => simp only [hh] at a4'
    | some q =>
      cases q with
      | none =>
        simp only [hh] at a4'
        refine ⟨n1 + 1, (.inr x, h', kk, jj), ?_, a2, a3, a4'⟩
        rw [am_run_succ]
        unfold am_body
        simp only [hq]
        rw [step _ (Nat.le_refl _)]
        simp only [am_beh2, hh, am_then]
      | some hp =>
        simp only [hh] at a4'
        refine go hp [.ref (h'.length - 1)] ?_ a4'.2
        simp only [am_beh2, hh]
        rw [show Nat.blt (h'.length - 1) 1000000 = true from Nat.ble_eq_true_of_le a4'.1]
theorem am_rstatic {m : Nat} {a : aM} {As : List Value} (hq : am_look r.2.2.2.2.2.2.2 pc = some (.invokestatic idx, 3)) (hn : am_acp r.2.2.2.2.1 idx S h = none)
    (hlk : am_look2 am_lk r.2.2.2.2.1 idx = some (m, 0)) (hm : am_prog[m]? = some a) (hA : (S.take (am_nar 0 a)).reverse = As) (hS : S.drop (am_nar 0 a) = S1)
    (hc : (Nat.beq As.length (am_nar 0 a) && Nat.ble (am_sum S1) 8 && Nat.ble (am_sum As) a.2.2.1) = true)
    (ht : am_T X d a 0 (lv_args 0 As) [] h (fun v h' => am_T X (d + 1) r (pc + 3) L (v.toList ++ S1) h' Q E) (am_Th X (d + 1) r pc L Q E)) : am_T X (d + 1) r pc L S h Q E :=
  am_rinvk hq (fun call L' => by simp [am_step, am_sim, am_br, am_obr, am_pure, am_ld, am_sto, am_sym_nil, hn, am_ilen]) hlk hm hA hS hc rfl ht
theorem am_rvirtual {m : Nat} {a : aM} {As : List Value} (hq : am_look r.2.2.2.2.2.2.2 pc = some (.invokevirtual idx, 3)) (hn : am_slen r.2.2.2.2.1 idx S = none) (hn2 : am_schr r.2.2.2.2.1 idx S = none)
    (hlk : am_look2 am_lk r.2.2.2.2.1 idx = some (m, 1)) (hm : am_prog[m]? = some a) (hA : (S.take (am_nar 1 a)).reverse = As) (hS : S.drop (am_nar 1 a) = S1)
    (hc : (Nat.beq As.length (am_nar 1 a) && Nat.ble (am_sum S1) 8 && Nat.ble (am_sum As) a.2.2.1) = true) (hrc : am_rc1 a h As = true)
    (ht : am_T X d a 0 (lv_args 0 As) [] h (fun v h' => am_T X (d + 1) r (pc + 3) L (v.toList ++ S1) h' Q E) (am_Th X (d + 1) r pc L Q E)) : am_T X (d + 1) r pc L S h Q E :=
  am_rinvk hq (fun call L' => by simp [am_step, am_sim, am_br, am_obr, am_pure, am_ld, am_sto, am_sym_nil, hn, hn2, am_ilen]) hlk hm hA hS hc hrc ht
theorem am_rspecial {m : Nat} {a : aM} {As : List Value} (hq : am_look r.2.2.2.2.2.2.2 pc = some (.invokespecial idx, 3)) (hn : am_obj r.2.2.2.2.1 idx S = none)
    (hlk : am_look2 am_lk r.2.2.2.2.1 idx = some (m, 2)) (hm : am_prog[m]? = some a) (hA : (S.take (am_nar 2 a)).reverse = As) (hS : S.drop (am_nar 2 a) = S1)
    (hc : (Nat.beq As.length (am_nar 2 a) && Nat.ble (am_sum S1) 8 && Nat.ble (am_sum As) a.2.2.1) = true) (hrc : am_rc2 As = true)
    (ht : am_T X d a 0 (lv_args 0 As) [] h (fun v h' => am_T X (d + 1) r (pc + 3) L (v.toList ++ S1) h' Q E) (am_Th X (d + 1) r pc L Q E)) : am_T X (d + 1) r pc L S h Q E :=
  am_rinvk hq (fun call L' => by simp [am_step, am_sim, am_br, am_obr, am_pure, am_ld, am_sto, am_sym_nil, hn, am_ilen]) hlk hm hA hS hc hrc ht
theorem am_rldc {c : Int32} (hq : am_look r.2.2.2.2.2.2.2 pc = some (.ldc idx, 2)) (hc : am_look2 am_c32 r.2.2.2.2.1 idx = some c) (hx : c = Int32.ofInt x) (ht : am_T X d r (pc + 2) L (am_iv x :: S) h Q E) : am_T X d r pc L S h Q E :=
  am_T2 hq (fun _ => by simp [am_sim, am_br, am_obr, am_pure, am_ld, am_sto, hc, hx, am_ilen]) rfl ht
theorem am_rldcs {i : Nat} (hq : am_look r.2.2.2.2.2.2.2 pc = some (.ldc idx, 2)) (hc : am_look2 am_c32 r.2.2.2.2.1 idx = none) (hs : am_look2 am_st r.2.2.2.2.1 idx = some i) (ht : am_T X d r (pc + 2) L (.ref (1000000 + i) :: S) h Q E) : am_T X d r pc L S h Q E :=
  am_T1 hq (fun call L' hL => ⟨L', by simp [am_step, am_sim, am_br, am_obr, am_pure, am_ld, am_sto, hc, am_ldcs, hs, am_ilen], hL⟩) rfl ht
theorem am_rldc2 {c : Int64} (hq : am_look r.2.2.2.2.2.2.2 pc = some (.ldc2_w idx, 3)) (hc : am_look2 am_c64 r.2.2.2.2.1 idx = some c) (ht : am_T X d r (pc + 3) L (.long c :: S) h Q E) : am_T X d r pc L S h Q E :=
  am_T2 hq (fun _ => by simp [am_sim, am_br, am_obr, am_pure, am_ld, am_sto, hc, am_ilen]) rfl ht
theorem am_rslen (hq : am_look r.2.2.2.2.2.2.2 pc = some (.invokevirtual idx, 3)) (hf : am_slen r.2.2.2.2.1 idx S = some S1) (ht : am_T X d r (pc + 3) L S1 h Q E) : am_T X d r pc L S h Q E :=
  am_T1 hq (fun call L' hL => ⟨L', by simp [am_step, am_sim, am_br, am_obr, am_pure, am_ld, am_sto, am_sym_nil, hf, am_ilen], hL⟩) rfl ht
theorem am_rschr (hq : am_look r.2.2.2.2.2.2.2 pc = some (.invokevirtual idx, 3)) (hn : am_slen r.2.2.2.2.1 idx S = none) (hf : am_schr r.2.2.2.2.1 idx S = some S1) (ht : am_T X d r (pc + 3) L S1 h Q E) : am_T X d r pc L S h Q E :=
  am_T1 hq (fun call L' hL => ⟨L', by simp [am_step, am_sim, am_br, am_obr, am_pure, am_ld, am_sto, am_sym_nil, hn, hf, am_ilen], hL⟩) rfl ht
theorem am_racp (hq : am_look r.2.2.2.2.2.2.2 pc = some (.invokestatic idx, 3)) (hf : am_acp r.2.2.2.2.1 idx S h = some (S1, h1)) (hlen : h1.length = h.length) (ht : am_T X d r (pc + 3) L S1 h1 Q E) : am_T X d r pc L S h Q E :=
  am_T1 hq (fun call L' hL => ⟨L', by simp [am_step, am_sim, am_br, am_obr, am_pure, am_ld, am_sto, am_sym_nil, hf, am_ilen], hL⟩) hlen ht
end AmRules3
end
section
/-! THE HEAP AT THE LAW'S LOOP as a function of its ints (f, by 100 times the cell and the field), its arrays (a, by the cell), the long of out; e exceptions lie behind (by program) -/
def am_ud {α : Type} (f : Nat → α) (k : Nat) (v : α) : Nat → α := fun j => bif Nat.beq j k then v else f j
theorem am_ud_eq {α : Type} (f : Nat → α) (k : Nat) (v : α) : am_ud f k v k = v := by simp [am_ud]
theorem am_ud_ne {α : Type} (f : Nat → α) {k j : Nat} (v : α) (h : j ≠ k) : am_ud f k v j = f j := by
  unfold am_ud
  cases e : Nat.beq j k with
  | false => rfl
  | true => exact absurd (Nat.eq_of_beq_eq_true e) h
def am_cells (f : Nat → Int) (a : Nat → List Int) (w : Value) : aH := [some (false, 10, [.ref 1, am_iv (f 1), am_iv (f 2), am_iv (f 3), am_iv (f 4), am_iv (f 5), .ref 2, .ref 4, .ref 12, .ref 106, .ref 113, .ref 114]),
  some (true, 0, (a 1).map am_iv),
  some (false, 7, [.ref 3, am_iv (f 201), am_iv (f 202), am_iv (f 203)]),
  some (true, 0, (a 3).map am_iv),
  some (false, 6, [.ref 2, .ref 5, .ref 6, .ref 7, .ref 8, .ref 9, am_iv (f 406), am_iv (f 407), am_iv (f 408)]),
  some (true, 0, (a 5).map am_iv),
  some (true, 0, (a 6).map am_iv),
  some (true, 0, (a 7).map am_iv),
  some (true, 0, (a 8).map am_iv),
  some (true, 0, (a 9).map am_iv),
  some (false, 9, [.ref 2, .ref 4, .ref 11, am_iv (f 1003)]),
  some (true, 0, (a 11).map am_iv),
  some (false, 3, [.ref 2, .ref 4, .ref 10, .ref 27, .ref 13, .ref 14, .ref 17, am_iv (f 1207), am_iv (f 1208)]),
  some (true, 3, [.ref 28, .ref 31, .ref 34, .ref 37, .ref 40, .ref 43, .ref 46, .ref 49, .ref 52, .ref 55, .ref 58, .ref 61, .ref 64, .ref 67, .ref 70, .ref 73, .ref 76, .ref 79, .ref 82, .ref 85, .ref 88, .ref 91, .ref 94, .ref 97, .ref 100, .ref 103]),
  some (false, 4, [am_iv (f 1400), am_iv (f 1401), am_iv (f 1402), .ref 15, .ref 16, am_iv (f 1405)]),
  some (true, 0, (a 15).map am_iv),
  some (true, 0, (a 16).map am_iv),
  some (false, 0, [.ref 18, .ref 19, .ref 20, .ref 21, .ref 22, .ref 23, .ref 24, .ref 25, .ref 26, am_iv (f 1709), am_iv (f 1710)]),
  some (true, 0, (a 18).map am_iv),
  some (true, 0, (a 19).map am_iv),
  some (true, 0, (a 20).map am_iv),
  some (true, 0, (a 21).map am_iv),
  some (true, 0, (a 22).map am_iv),
  some (true, 0, (a 23).map am_iv),
  some (true, 0, (a 24).map am_iv),
  some (true, 0, (a 25).map am_iv),
  some (true, 0, (a 26).map am_iv),
  some (false, 5, [.ref 2, am_iv (f 2701), am_iv (f 2702), am_iv (f 2703)]),
  some (false, 4, [am_iv (f 2800), am_iv (f 2801), am_iv (f 2802), .ref 29, .ref 30, am_iv (f 2805)]),
  some (true, 0, (a 29).map am_iv),
  some (true, 0, (a 30).map am_iv),
  some (false, 4, [am_iv (f 3100), am_iv (f 3101), am_iv (f 3102), .ref 32, .ref 33, am_iv (f 3105)]),
  some (true, 0, (a 32).map am_iv),
  some (true, 0, (a 33).map am_iv),
  some (false, 4, [am_iv (f 3400), am_iv (f 3401), am_iv (f 3402), .ref 35, .ref 36, am_iv (f 3405)]),
  some (true, 0, (a 35).map am_iv),
  some (true, 0, (a 36).map am_iv),
  some (false, 4, [am_iv (f 3700), am_iv (f 3701), am_iv (f 3702), .ref 38, .ref 39, am_iv (f 3705)]),
  some (true, 0, (a 38).map am_iv),
  some (true, 0, (a 39).map am_iv),
  some (false, 4, [am_iv (f 4000), am_iv (f 4001), am_iv (f 4002), .ref 41, .ref 42, am_iv (f 4005)]),
  some (true, 0, (a 41).map am_iv),
  some (true, 0, (a 42).map am_iv),
  some (false, 4, [am_iv (f 4300), am_iv (f 4301), am_iv (f 4302), .ref 44, .ref 45, am_iv (f 4305)]),
  some (true, 0, (a 44).map am_iv),
  some (true, 0, (a 45).map am_iv),
  some (false, 4, [am_iv (f 4600), am_iv (f 4601), am_iv (f 4602), .ref 47, .ref 48, am_iv (f 4605)]),
  some (true, 0, (a 47).map am_iv),
  some (true, 0, (a 48).map am_iv),
  some (false, 4, [am_iv (f 4900), am_iv (f 4901), am_iv (f 4902), .ref 50, .ref 51, am_iv (f 4905)]),
  some (true, 0, (a 50).map am_iv),
  some (true, 0, (a 51).map am_iv),
  some (false, 4, [am_iv (f 5200), am_iv (f 5201), am_iv (f 5202), .ref 53, .ref 54, am_iv (f 5205)]),
  some (true, 0, (a 53).map am_iv),
  some (true, 0, (a 54).map am_iv),
  some (false, 4, [am_iv (f 5500), am_iv (f 5501), am_iv (f 5502), .ref 56, .ref 57, am_iv (f 5505)]),
  some (true, 0, (a 56).map am_iv),
  some (true, 0, (a 57).map am_iv),
  some (false, 4, [am_iv (f 5800), am_iv (f 5801), am_iv (f 5802), .ref 59, .ref 60, am_iv (f 5805)]),
  some (true, 0, (a 59).map am_iv),
  some (true, 0, (a 60).map am_iv),
  some (false, 4, [am_iv (f 6100), am_iv (f 6101), am_iv (f 6102), .ref 62, .ref 63, am_iv (f 6105)]),
  some (true, 0, (a 62).map am_iv),
  some (true, 0, (a 63).map am_iv),
  some (false, 4, [am_iv (f 6400), am_iv (f 6401), am_iv (f 6402), .ref 65, .ref 66, am_iv (f 6405)]),
  some (true, 0, (a 65).map am_iv),
  some (true, 0, (a 66).map am_iv),
  some (false, 4, [am_iv (f 6700), am_iv (f 6701), am_iv (f 6702), .ref 68, .ref 69, am_iv (f 6705)]),
  some (true, 0, (a 68).map am_iv),
  some (true, 0, (a 69).map am_iv),
  some (false, 4, [am_iv (f 7000), am_iv (f 7001), am_iv (f 7002), .ref 71, .ref 72, am_iv (f 7005)]),
  some (true, 0, (a 71).map am_iv),
  some (true, 0, (a 72).map am_iv),
  some (false, 4, [am_iv (f 7300), am_iv (f 7301), am_iv (f 7302), .ref 74, .ref 75, am_iv (f 7305)]),
  some (true, 0, (a 74).map am_iv),
  some (true, 0, (a 75).map am_iv),
  some (false, 4, [am_iv (f 7600), am_iv (f 7601), am_iv (f 7602), .ref 77, .ref 78, am_iv (f 7605)]),
  some (true, 0, (a 77).map am_iv),
  some (true, 0, (a 78).map am_iv),
  some (false, 4, [am_iv (f 7900), am_iv (f 7901), am_iv (f 7902), .ref 80, .ref 81, am_iv (f 7905)]),
  some (true, 0, (a 80).map am_iv),
  some (true, 0, (a 81).map am_iv),
  some (false, 4, [am_iv (f 8200), am_iv (f 8201), am_iv (f 8202), .ref 83, .ref 84, am_iv (f 8205)]),
  some (true, 0, (a 83).map am_iv),
  some (true, 0, (a 84).map am_iv),
  some (false, 4, [am_iv (f 8500), am_iv (f 8501), am_iv (f 8502), .ref 86, .ref 87, am_iv (f 8505)]),
  some (true, 0, (a 86).map am_iv),
  some (true, 0, (a 87).map am_iv),
  some (false, 4, [am_iv (f 8800), am_iv (f 8801), am_iv (f 8802), .ref 89, .ref 90, am_iv (f 8805)]),
  some (true, 0, (a 89).map am_iv),
  some (true, 0, (a 90).map am_iv),
  some (false, 4, [am_iv (f 9100), am_iv (f 9101), am_iv (f 9102), .ref 92, .ref 93, am_iv (f 9105)]),
  some (true, 0, (a 92).map am_iv),
  some (true, 0, (a 93).map am_iv),
  some (false, 4, [am_iv (f 9400), am_iv (f 9401), am_iv (f 9402), .ref 95, .ref 96, am_iv (f 9405)]),
  some (true, 0, (a 95).map am_iv),
  some (true, 0, (a 96).map am_iv),
  some (false, 4, [am_iv (f 9700), am_iv (f 9701), am_iv (f 9702), .ref 98, .ref 99, am_iv (f 9705)]),
  some (true, 0, (a 98).map am_iv),
  some (true, 0, (a 99).map am_iv),
  some (false, 4, [am_iv (f 10000), am_iv (f 10001), am_iv (f 10002), .ref 101, .ref 102, am_iv (f 10005)]),
  some (true, 0, (a 101).map am_iv),
  some (true, 0, (a 102).map am_iv),
  some (false, 4, [am_iv (f 10300), am_iv (f 10301), am_iv (f 10302), .ref 104, .ref 105, am_iv (f 10305)]),
  some (true, 0, (a 104).map am_iv),
  some (true, 0, (a 105).map am_iv),
  some (false, 1, [.ref 107, .ref 108, .ref 109, .ref 110, .ref 111, .ref 112, am_iv (f 10606), am_iv (f 10607)]),
  some (true, 0, (a 107).map am_iv),
  some (true, 0, (a 108).map am_iv),
  some (true, 0, (a 109).map am_iv),
  some (true, 0, (a 110).map am_iv),
  some (true, 0, (a 111).map am_iv),
  some (true, 0, (a 112).map am_iv),
  some (false, 8, [.ref 2, .ref 4, .ref 10, .ref 17, .ref 106]),
  some (false, 2, [.ref 2, .ref 12, .ref 17, .ref 106, .ref 115, .ref 116, am_iv (f 11406), am_iv (f 11407)]),
  some (true, 0, (a 115).map am_iv),
  some (true, 0, (a 116).map am_iv),
  some (false, 11, [am_iv (f 11700), am_iv (f 11701), am_iv (f 11702), am_iv (f 11703), am_iv (f 11704), .ref 118, .ref 119, am_iv (f 11707), .ref 120, am_iv (f 11709), .ref 121, .ref 122, .ref 123, am_iv (f 11713), .ref 124, .ref 125, .ref 126, .ref 127, am_iv (f 11718), .ref 128, .ref 129, .ref 130, .ref 131, am_iv (f 11723), am_iv (f 11724), .ref 132, .ref 133, .ref 134, .ref 135, .ref 136, .ref 137, .ref 138, .ref 139, .ref 140, .ref 141, .ref 142, .ref 143, .ref 144, am_iv (f 11738), am_iv (f 11739), am_iv (f 11740), am_iv (f 11741), .ref 145, .ref 146, .ref 147, .ref 148, .ref 149, .ref 150, .ref 151, .ref 152, am_iv (f 11750), .ref 153, .ref 154, am_iv (f 11753), .ref 155, am_iv (f 11755), .ref 156, am_iv (f 11757), .ref 157, .ref 158, .ref 159, .ref 160, .ref 161, am_iv (f 11763), .ref 162]),
  some (true, 0, (a 118).map am_iv),
  some (true, 0, (a 119).map am_iv),
  some (true, 0, (a 120).map am_iv),
  some (true, 0, (a 121).map am_iv),
  some (true, 0, (a 122).map am_iv),
  some (true, 1, (a 123).map am_iv),
  some (true, 0, (a 124).map am_iv),
  some (true, 0, (a 125).map am_iv),
  some (true, 0, (a 126).map am_iv),
  some (true, 0, (a 127).map am_iv),
  some (true, 0, (a 128).map am_iv),
  some (true, 0, (a 129).map am_iv),
  some (true, 0, (a 130).map am_iv),
  some (true, 1, (a 131).map am_iv),
  some (true, 0, (a 132).map am_iv),
  some (true, 0, (a 133).map am_iv),
  some (true, 0, (a 134).map am_iv),
  some (true, 0, (a 135).map am_iv),
  some (true, 0, (a 136).map am_iv),
  some (true, 0, (a 137).map am_iv),
  some (true, 0, (a 138).map am_iv),
  some (true, 1, (a 139).map am_iv),
  some (true, 0, (a 140).map am_iv),
  some (true, 0, (a 141).map am_iv),
  some (true, 0, (a 142).map am_iv),
  some (true, 1, (a 143).map am_iv),
  some (true, 1, (a 144).map am_iv),
  some (true, 0, (a 145).map am_iv),
  some (true, 0, (a 146).map am_iv),
  some (true, 0, (a 147).map am_iv),
  some (true, 0, (a 148).map am_iv),
  some (true, 0, (a 149).map am_iv),
  some (true, 0, (a 150).map am_iv),
  some (true, 0, (a 151).map am_iv),
  some (true, 0, (a 152).map am_iv),
  some (true, 0, (a 153).map am_iv),
  some (true, 0, (a 154).map am_iv),
  some (true, 0, (a 155).map am_iv),
  some (true, 0, (a 156).map am_iv),
  some (true, 0, (a 157).map am_iv),
  some (true, 0, (a 158).map am_iv),
  some (true, 0, (a 159).map am_iv),
  some (true, 0, (a 160).map am_iv),
  some (true, 0, (a 161).map am_iv),
  some (true, 0, (a 162).map am_iv),
  some (true, 2, [w])]
def am_enc (f : Nat → Int) (a : Nat → List Int) (w : Value) (e : Nat) : aH := am_cells f a w ++ List.replicate e none
section AmEnc
variable {f : Nat → Int} {a : Nat → List Int} {w : Value} {e : Nat}
theorem am_enc_len : (am_enc f a w e).length = 164 + e := by unfold am_enc; rw [List.length_append, List.length_replicate]; rfl
theorem am_enc_none : am_enc f a w e ++ [none] = am_enc f a w (e + 1) := by unfold am_enc; rw [List.append_assoc, List.replicate_succ']
theorem am_ge0 : am_get (am_enc f a w e) 0 = some (false, 10, [.ref 1, am_iv (f 1), am_iv (f 2), am_iv (f 3), am_iv (f 4), am_iv (f 5), .ref 2, .ref 4, .ref 12, .ref 106, .ref 113, .ref 114]) := rfl
set_option maxRecDepth 100000 in
theorem am_sf1 (v : Int) : (am_enc f a w e).set 0 (some (false, 10, [.ref 1, am_iv v, am_iv (f 2), am_iv (f 3), am_iv (f 4), am_iv (f 5), .ref 2, .ref 4, .ref 12, .ref 106, .ref 113, .ref 114])) = am_enc (am_ud f 1 v) a w e := rfl
set_option maxRecDepth 100000 in
theorem am_sf2 (v : Int) : (am_enc f a w e).set 0 (some (false, 10, [.ref 1, am_iv (f 1), am_iv v, am_iv (f 3), am_iv (f 4), am_iv (f 5), .ref 2, .ref 4, .ref 12, .ref 106, .ref 113, .ref 114])) = am_enc (am_ud f 2 v) a w e := rfl
set_option maxRecDepth 100000 in
theorem am_sf3 (v : Int) : (am_enc f a w e).set 0 (some (false, 10, [.ref 1, am_iv (f 1), am_iv (f 2), am_iv v, am_iv (f 4), am_iv (f 5), .ref 2, .ref 4, .ref 12, .ref 106, .ref 113, .ref 114])) = am_enc (am_ud f 3 v) a w e := rfl
set_option maxRecDepth 100000 in
theorem am_sf4 (v : Int) : (am_enc f a w e).set 0 (some (false, 10, [.ref 1, am_iv (f 1), am_iv (f 2), am_iv (f 3), am_iv v, am_iv (f 5), .ref 2, .ref 4, .ref 12, .ref 106, .ref 113, .ref 114])) = am_enc (am_ud f 4 v) a w e := rfl
set_option maxRecDepth 100000 in
theorem am_sf5 (v : Int) : (am_enc f a w e).set 0 (some (false, 10, [.ref 1, am_iv (f 1), am_iv (f 2), am_iv (f 3), am_iv (f 4), am_iv v, .ref 2, .ref 4, .ref 12, .ref 106, .ref 113, .ref 114])) = am_enc (am_ud f 5 v) a w e := rfl
theorem am_ge1 : am_get (am_enc f a w e) 1 = some (true, 0, (a 1).map am_iv) := rfl
set_option maxRecDepth 100000 in
theorem am_sa1 (l : List Int) : (am_enc f a w e).set 1 (some (true, 0, l.map am_iv)) = am_enc f (am_ud a 1 l) w e := rfl
theorem am_ge2 : am_get (am_enc f a w e) 2 = some (false, 7, [.ref 3, am_iv (f 201), am_iv (f 202), am_iv (f 203)]) := rfl
set_option maxRecDepth 100000 in
theorem am_sf201 (v : Int) : (am_enc f a w e).set 2 (some (false, 7, [.ref 3, am_iv v, am_iv (f 202), am_iv (f 203)])) = am_enc (am_ud f 201 v) a w e := rfl
set_option maxRecDepth 100000 in
theorem am_sf202 (v : Int) : (am_enc f a w e).set 2 (some (false, 7, [.ref 3, am_iv (f 201), am_iv v, am_iv (f 203)])) = am_enc (am_ud f 202 v) a w e := rfl
set_option maxRecDepth 100000 in
theorem am_sf203 (v : Int) : (am_enc f a w e).set 2 (some (false, 7, [.ref 3, am_iv (f 201), am_iv (f 202), am_iv v])) = am_enc (am_ud f 203 v) a w e := rfl
theorem am_ge3 : am_get (am_enc f a w e) 3 = some (true, 0, (a 3).map am_iv) := rfl
set_option maxRecDepth 100000 in
theorem am_sa3 (l : List Int) : (am_enc f a w e).set 3 (some (true, 0, l.map am_iv)) = am_enc f (am_ud a 3 l) w e := rfl
theorem am_ge4 : am_get (am_enc f a w e) 4 = some (false, 6, [.ref 2, .ref 5, .ref 6, .ref 7, .ref 8, .ref 9, am_iv (f 406), am_iv (f 407), am_iv (f 408)]) := rfl
set_option maxRecDepth 100000 in
theorem am_sf406 (v : Int) : (am_enc f a w e).set 4 (some (false, 6, [.ref 2, .ref 5, .ref 6, .ref 7, .ref 8, .ref 9, am_iv v, am_iv (f 407), am_iv (f 408)])) = am_enc (am_ud f 406 v) a w e := rfl
set_option maxRecDepth 100000 in
theorem am_sf407 (v : Int) : (am_enc f a w e).set 4 (some (false, 6, [.ref 2, .ref 5, .ref 6, .ref 7, .ref 8, .ref 9, am_iv (f 406), am_iv v, am_iv (f 408)])) = am_enc (am_ud f 407 v) a w e := rfl
set_option maxRecDepth 100000 in
theorem am_sf408 (v : Int) : (am_enc f a w e).set 4 (some (false, 6, [.ref 2, .ref 5, .ref 6, .ref 7, .ref 8, .ref 9, am_iv (f 406), am_iv (f 407), am_iv v])) = am_enc (am_ud f 408 v) a w e := rfl
theorem am_ge5 : am_get (am_enc f a w e) 5 = some (true, 0, (a 5).map am_iv) := rfl
set_option maxRecDepth 100000 in
theorem am_sa5 (l : List Int) : (am_enc f a w e).set 5 (some (true, 0, l.map am_iv)) = am_enc f (am_ud a 5 l) w e := rfl
theorem am_ge6 : am_get (am_enc f a w e) 6 = some (true, 0, (a 6).map am_iv) := rfl
set_option maxRecDepth 100000 in
theorem am_sa6 (l : List Int) : (am_enc f a w e).set 6 (some (true, 0, l.map am_iv)) = am_enc f (am_ud a 6 l) w e := rfl
theorem am_ge7 : am_get (am_enc f a w e) 7 = some (true, 0, (a 7).map am_iv) := rfl
set_option maxRecDepth 100000 in
theorem am_sa7 (l : List Int) : (am_enc f a w e).set 7 (some (true, 0, l.map am_iv)) = am_enc f (am_ud a 7 l) w e := rfl
theorem am_ge8 : am_get (am_enc f a w e) 8 = some (true, 0, (a 8).map am_iv) := rfl
set_option maxRecDepth 100000 in
theorem am_sa8 (l : List Int) : (am_enc f a w e).set 8 (some (true, 0, l.map am_iv)) = am_enc f (am_ud a 8 l) w e := rfl
theorem am_ge9 : am_get (am_enc f a w e) 9 = some (true, 0, (a 9).map am_iv) := rfl
set_option maxRecDepth 100000 in
theorem am_sa9 (l : List Int) : (am_enc f a w e).set 9 (some (true, 0, l.map am_iv)) = am_enc f (am_ud a 9 l) w e := rfl
theorem am_ge10 : am_get (am_enc f a w e) 10 = some (false, 9, [.ref 2, .ref 4, .ref 11, am_iv (f 1003)]) := rfl
set_option maxRecDepth 100000 in
theorem am_sf1003 (v : Int) : (am_enc f a w e).set 10 (some (false, 9, [.ref 2, .ref 4, .ref 11, am_iv v])) = am_enc (am_ud f 1003 v) a w e := rfl
theorem am_ge11 : am_get (am_enc f a w e) 11 = some (true, 0, (a 11).map am_iv) := rfl
set_option maxRecDepth 100000 in
theorem am_sa11 (l : List Int) : (am_enc f a w e).set 11 (some (true, 0, l.map am_iv)) = am_enc f (am_ud a 11 l) w e := rfl
theorem am_ge12 : am_get (am_enc f a w e) 12 = some (false, 3, [.ref 2, .ref 4, .ref 10, .ref 27, .ref 13, .ref 14, .ref 17, am_iv (f 1207), am_iv (f 1208)]) := rfl
set_option maxRecDepth 100000 in
theorem am_sf1207 (v : Int) : (am_enc f a w e).set 12 (some (false, 3, [.ref 2, .ref 4, .ref 10, .ref 27, .ref 13, .ref 14, .ref 17, am_iv v, am_iv (f 1208)])) = am_enc (am_ud f 1207 v) a w e := rfl
set_option maxRecDepth 100000 in
theorem am_sf1208 (v : Int) : (am_enc f a w e).set 12 (some (false, 3, [.ref 2, .ref 4, .ref 10, .ref 27, .ref 13, .ref 14, .ref 17, am_iv (f 1207), am_iv v])) = am_enc (am_ud f 1208 v) a w e := rfl
theorem am_ge13 : am_get (am_enc f a w e) 13 = some (true, 3, [.ref 28, .ref 31, .ref 34, .ref 37, .ref 40, .ref 43, .ref 46, .ref 49, .ref 52, .ref 55, .ref 58, .ref 61, .ref 64, .ref 67, .ref 70, .ref 73, .ref 76, .ref 79, .ref 82, .ref 85, .ref 88, .ref 91, .ref 94, .ref 97, .ref 100, .ref 103]) := rfl
theorem am_ge14 : am_get (am_enc f a w e) 14 = some (false, 4, [am_iv (f 1400), am_iv (f 1401), am_iv (f 1402), .ref 15, .ref 16, am_iv (f 1405)]) := rfl
set_option maxRecDepth 100000 in
theorem am_sf1400 (v : Int) : (am_enc f a w e).set 14 (some (false, 4, [am_iv v, am_iv (f 1401), am_iv (f 1402), .ref 15, .ref 16, am_iv (f 1405)])) = am_enc (am_ud f 1400 v) a w e := rfl
set_option maxRecDepth 100000 in
theorem am_sf1401 (v : Int) : (am_enc f a w e).set 14 (some (false, 4, [am_iv (f 1400), am_iv v, am_iv (f 1402), .ref 15, .ref 16, am_iv (f 1405)])) = am_enc (am_ud f 1401 v) a w e := rfl
set_option maxRecDepth 100000 in
theorem am_sf1402 (v : Int) : (am_enc f a w e).set 14 (some (false, 4, [am_iv (f 1400), am_iv (f 1401), am_iv v, .ref 15, .ref 16, am_iv (f 1405)])) = am_enc (am_ud f 1402 v) a w e := rfl
set_option maxRecDepth 100000 in
theorem am_sf1405 (v : Int) : (am_enc f a w e).set 14 (some (false, 4, [am_iv (f 1400), am_iv (f 1401), am_iv (f 1402), .ref 15, .ref 16, am_iv v])) = am_enc (am_ud f 1405 v) a w e := rfl
theorem am_ge15 : am_get (am_enc f a w e) 15 = some (true, 0, (a 15).map am_iv) := rfl
set_option maxRecDepth 100000 in
theorem am_sa15 (l : List Int) : (am_enc f a w e).set 15 (some (true, 0, l.map am_iv)) = am_enc f (am_ud a 15 l) w e := rfl
theorem am_ge16 : am_get (am_enc f a w e) 16 = some (true, 0, (a 16).map am_iv) := rfl
set_option maxRecDepth 100000 in
theorem am_sa16 (l : List Int) : (am_enc f a w e).set 16 (some (true, 0, l.map am_iv)) = am_enc f (am_ud a 16 l) w e := rfl
theorem am_ge17 : am_get (am_enc f a w e) 17 = some (false, 0, [.ref 18, .ref 19, .ref 20, .ref 21, .ref 22, .ref 23, .ref 24, .ref 25, .ref 26, am_iv (f 1709), am_iv (f 1710)]) := rfl
set_option maxRecDepth 100000 in
theorem am_sf1709 (v : Int) : (am_enc f a w e).set 17 (some (false, 0, [.ref 18, .ref 19, .ref 20, .ref 21, .ref 22, .ref 23, .ref 24, .ref 25, .ref 26, am_iv v, am_iv (f 1710)])) = am_enc (am_ud f 1709 v) a w e := rfl
set_option maxRecDepth 100000 in
theorem am_sf1710 (v : Int) : (am_enc f a w e).set 17 (some (false, 0, [.ref 18, .ref 19, .ref 20, .ref 21, .ref 22, .ref 23, .ref 24, .ref 25, .ref 26, am_iv (f 1709), am_iv v])) = am_enc (am_ud f 1710 v) a w e := rfl
theorem am_ge18 : am_get (am_enc f a w e) 18 = some (true, 0, (a 18).map am_iv) := rfl
set_option maxRecDepth 100000 in
theorem am_sa18 (l : List Int) : (am_enc f a w e).set 18 (some (true, 0, l.map am_iv)) = am_enc f (am_ud a 18 l) w e := rfl
theorem am_ge19 : am_get (am_enc f a w e) 19 = some (true, 0, (a 19).map am_iv) := rfl
set_option maxRecDepth 100000 in
theorem am_sa19 (l : List Int) : (am_enc f a w e).set 19 (some (true, 0, l.map am_iv)) = am_enc f (am_ud a 19 l) w e := rfl
theorem am_ge20 : am_get (am_enc f a w e) 20 = some (true, 0, (a 20).map am_iv) := rfl
set_option maxRecDepth 100000 in
theorem am_sa20 (l : List Int) : (am_enc f a w e).set 20 (some (true, 0, l.map am_iv)) = am_enc f (am_ud a 20 l) w e := rfl
theorem am_ge21 : am_get (am_enc f a w e) 21 = some (true, 0, (a 21).map am_iv) := rfl
set_option maxRecDepth 100000 in
theorem am_sa21 (l : List Int) : (am_enc f a w e).set 21 (some (true, 0, l.map am_iv)) = am_enc f (am_ud a 21 l) w e := rfl
theorem am_ge22 : am_get (am_enc f a w e) 22 = some (true, 0, (a 22).map am_iv) := rfl
set_option maxRecDepth 100000 in
theorem am_sa22 (l : List Int) : (am_enc f a w e).set 22 (some (true, 0, l.map am_iv)) = am_enc f (am_ud a 22 l) w e := rfl
theorem am_ge23 : am_get (am_enc f a w e) 23 = some (true, 0, (a 23).map am_iv) := rfl
set_option maxRecDepth 100000 in
theorem am_sa23 (l : List Int) : (am_enc f a w e).set 23 (some (true, 0, l.map am_iv)) = am_enc f (am_ud a 23 l) w e := rfl
theorem am_ge24 : am_get (am_enc f a w e) 24 = some (true, 0, (a 24).map am_iv) := rfl
set_option maxRecDepth 100000 in
theorem am_sa24 (l : List Int) : (am_enc f a w e).set 24 (some (true, 0, l.map am_iv)) = am_enc f (am_ud a 24 l) w e := rfl
theorem am_ge25 : am_get (am_enc f a w e) 25 = some (true, 0, (a 25).map am_iv) := rfl
set_option maxRecDepth 100000 in
theorem am_sa25 (l : List Int) : (am_enc f a w e).set 25 (some (true, 0, l.map am_iv)) = am_enc f (am_ud a 25 l) w e := rfl
theorem am_ge26 : am_get (am_enc f a w e) 26 = some (true, 0, (a 26).map am_iv) := rfl
set_option maxRecDepth 100000 in
theorem am_sa26 (l : List Int) : (am_enc f a w e).set 26 (some (true, 0, l.map am_iv)) = am_enc f (am_ud a 26 l) w e := rfl
theorem am_ge27 : am_get (am_enc f a w e) 27 = some (false, 5, [.ref 2, am_iv (f 2701), am_iv (f 2702), am_iv (f 2703)]) := rfl
set_option maxRecDepth 100000 in
theorem am_sf2701 (v : Int) : (am_enc f a w e).set 27 (some (false, 5, [.ref 2, am_iv v, am_iv (f 2702), am_iv (f 2703)])) = am_enc (am_ud f 2701 v) a w e := rfl
set_option maxRecDepth 100000 in
theorem am_sf2702 (v : Int) : (am_enc f a w e).set 27 (some (false, 5, [.ref 2, am_iv (f 2701), am_iv v, am_iv (f 2703)])) = am_enc (am_ud f 2702 v) a w e := rfl
set_option maxRecDepth 100000 in
theorem am_sf2703 (v : Int) : (am_enc f a w e).set 27 (some (false, 5, [.ref 2, am_iv (f 2701), am_iv (f 2702), am_iv v])) = am_enc (am_ud f 2703 v) a w e := rfl
theorem am_ge28 : am_get (am_enc f a w e) 28 = some (false, 4, [am_iv (f 2800), am_iv (f 2801), am_iv (f 2802), .ref 29, .ref 30, am_iv (f 2805)]) := rfl
set_option maxRecDepth 100000 in
theorem am_sf2800 (v : Int) : (am_enc f a w e).set 28 (some (false, 4, [am_iv v, am_iv (f 2801), am_iv (f 2802), .ref 29, .ref 30, am_iv (f 2805)])) = am_enc (am_ud f 2800 v) a w e := rfl
set_option maxRecDepth 100000 in
theorem am_sf2801 (v : Int) : (am_enc f a w e).set 28 (some (false, 4, [am_iv (f 2800), am_iv v, am_iv (f 2802), .ref 29, .ref 30, am_iv (f 2805)])) = am_enc (am_ud f 2801 v) a w e := rfl
set_option maxRecDepth 100000 in
theorem am_sf2802 (v : Int) : (am_enc f a w e).set 28 (some (false, 4, [am_iv (f 2800), am_iv (f 2801), am_iv v, .ref 29, .ref 30, am_iv (f 2805)])) = am_enc (am_ud f 2802 v) a w e := rfl
set_option maxRecDepth 100000 in
theorem am_sf2805 (v : Int) : (am_enc f a w e).set 28 (some (false, 4, [am_iv (f 2800), am_iv (f 2801), am_iv (f 2802), .ref 29, .ref 30, am_iv v])) = am_enc (am_ud f 2805 v) a w e := rfl
theorem am_ge29 : am_get (am_enc f a w e) 29 = some (true, 0, (a 29).map am_iv) := rfl
set_option maxRecDepth 100000 in
theorem am_sa29 (l : List Int) : (am_enc f a w e).set 29 (some (true, 0, l.map am_iv)) = am_enc f (am_ud a 29 l) w e := rfl
theorem am_ge30 : am_get (am_enc f a w e) 30 = some (true, 0, (a 30).map am_iv) := rfl
set_option maxRecDepth 100000 in
theorem am_sa30 (l : List Int) : (am_enc f a w e).set 30 (some (true, 0, l.map am_iv)) = am_enc f (am_ud a 30 l) w e := rfl
theorem am_ge31 : am_get (am_enc f a w e) 31 = some (false, 4, [am_iv (f 3100), am_iv (f 3101), am_iv (f 3102), .ref 32, .ref 33, am_iv (f 3105)]) := rfl
set_option maxRecDepth 100000 in
theorem am_sf3100 (v : Int) : (am_enc f a w e).set 31 (some (false, 4, [am_iv v, am_iv (f 3101), am_iv (f 3102), .ref 32, .ref 33, am_iv (f 3105)])) = am_enc (am_ud f 3100 v) a w e := rfl
set_option maxRecDepth 100000 in
theorem am_sf3101 (v : Int) : (am_enc f a w e).set 31 (some (false, 4, [am_iv (f 3100), am_iv v, am_iv (f 3102), .ref 32, .ref 33, am_iv (f 3105)])) = am_enc (am_ud f 3101 v) a w e := rfl
set_option maxRecDepth 100000 in
theorem am_sf3102 (v : Int) : (am_enc f a w e).set 31 (some (false, 4, [am_iv (f 3100), am_iv (f 3101), am_iv v, .ref 32, .ref 33, am_iv (f 3105)])) = am_enc (am_ud f 3102 v) a w e := rfl
set_option maxRecDepth 100000 in
theorem am_sf3105 (v : Int) : (am_enc f a w e).set 31 (some (false, 4, [am_iv (f 3100), am_iv (f 3101), am_iv (f 3102), .ref 32, .ref 33, am_iv v])) = am_enc (am_ud f 3105 v) a w e := rfl
theorem am_ge32 : am_get (am_enc f a w e) 32 = some (true, 0, (a 32).map am_iv) := rfl
set_option maxRecDepth 100000 in
theorem am_sa32 (l : List Int) : (am_enc f a w e).set 32 (some (true, 0, l.map am_iv)) = am_enc f (am_ud a 32 l) w e := rfl
theorem am_ge33 : am_get (am_enc f a w e) 33 = some (true, 0, (a 33).map am_iv) := rfl
set_option maxRecDepth 100000 in
theorem am_sa33 (l : List Int) : (am_enc f a w e).set 33 (some (true, 0, l.map am_iv)) = am_enc f (am_ud a 33 l) w e := rfl
theorem am_ge34 : am_get (am_enc f a w e) 34 = some (false, 4, [am_iv (f 3400), am_iv (f 3401), am_iv (f 3402), .ref 35, .ref 36, am_iv (f 3405)]) := rfl
set_option maxRecDepth 100000 in
theorem am_sf3400 (v : Int) : (am_enc f a w e).set 34 (some (false, 4, [am_iv v, am_iv (f 3401), am_iv (f 3402), .ref 35, .ref 36, am_iv (f 3405)])) = am_enc (am_ud f 3400 v) a w e := rfl
set_option maxRecDepth 100000 in
theorem am_sf3401 (v : Int) : (am_enc f a w e).set 34 (some (false, 4, [am_iv (f 3400), am_iv v, am_iv (f 3402), .ref 35, .ref 36, am_iv (f 3405)])) = am_enc (am_ud f 3401 v) a w e := rfl
set_option maxRecDepth 100000 in
theorem am_sf3402 (v : Int) : (am_enc f a w e).set 34 (some (false, 4, [am_iv (f 3400), am_iv (f 3401), am_iv v, .ref 35, .ref 36, am_iv (f 3405)])) = am_enc (am_ud f 3402 v) a w e := rfl
set_option maxRecDepth 100000 in
theorem am_sf3405 (v : Int) : (am_enc f a w e).set 34 (some (false, 4, [am_iv (f 3400), am_iv (f 3401), am_iv (f 3402), .ref 35, .ref 36, am_iv v])) = am_enc (am_ud f 3405 v) a w e := rfl
theorem am_ge35 : am_get (am_enc f a w e) 35 = some (true, 0, (a 35).map am_iv) := rfl
set_option maxRecDepth 100000 in
theorem am_sa35 (l : List Int) : (am_enc f a w e).set 35 (some (true, 0, l.map am_iv)) = am_enc f (am_ud a 35 l) w e := rfl
theorem am_ge36 : am_get (am_enc f a w e) 36 = some (true, 0, (a 36).map am_iv) := rfl
set_option maxRecDepth 100000 in
theorem am_sa36 (l : List Int) : (am_enc f a w e).set 36 (some (true, 0, l.map am_iv)) = am_enc f (am_ud a 36 l) w e := rfl
theorem am_ge37 : am_get (am_enc f a w e) 37 = some (false, 4, [am_iv (f 3700), am_iv (f 3701), am_iv (f 3702), .ref 38, .ref 39, am_iv (f 3705)]) := rfl
set_option maxRecDepth 100000 in
theorem am_sf3700 (v : Int) : (am_enc f a w e).set 37 (some (false, 4, [am_iv v, am_iv (f 3701), am_iv (f 3702), .ref 38, .ref 39, am_iv (f 3705)])) = am_enc (am_ud f 3700 v) a w e := rfl
set_option maxRecDepth 100000 in
theorem am_sf3701 (v : Int) : (am_enc f a w e).set 37 (some (false, 4, [am_iv (f 3700), am_iv v, am_iv (f 3702), .ref 38, .ref 39, am_iv (f 3705)])) = am_enc (am_ud f 3701 v) a w e := rfl
set_option maxRecDepth 100000 in
theorem am_sf3702 (v : Int) : (am_enc f a w e).set 37 (some (false, 4, [am_iv (f 3700), am_iv (f 3701), am_iv v, .ref 38, .ref 39, am_iv (f 3705)])) = am_enc (am_ud f 3702 v) a w e := rfl
set_option maxRecDepth 100000 in
theorem am_sf3705 (v : Int) : (am_enc f a w e).set 37 (some (false, 4, [am_iv (f 3700), am_iv (f 3701), am_iv (f 3702), .ref 38, .ref 39, am_iv v])) = am_enc (am_ud f 3705 v) a w e := rfl
theorem am_ge38 : am_get (am_enc f a w e) 38 = some (true, 0, (a 38).map am_iv) := rfl
set_option maxRecDepth 100000 in
theorem am_sa38 (l : List Int) : (am_enc f a w e).set 38 (some (true, 0, l.map am_iv)) = am_enc f (am_ud a 38 l) w e := rfl
theorem am_ge39 : am_get (am_enc f a w e) 39 = some (true, 0, (a 39).map am_iv) := rfl
set_option maxRecDepth 100000 in
theorem am_sa39 (l : List Int) : (am_enc f a w e).set 39 (some (true, 0, l.map am_iv)) = am_enc f (am_ud a 39 l) w e := rfl
theorem am_ge40 : am_get (am_enc f a w e) 40 = some (false, 4, [am_iv (f 4000), am_iv (f 4001), am_iv (f 4002), .ref 41, .ref 42, am_iv (f 4005)]) := rfl
set_option maxRecDepth 100000 in
theorem am_sf4000 (v : Int) : (am_enc f a w e).set 40 (some (false, 4, [am_iv v, am_iv (f 4001), am_iv (f 4002), .ref 41, .ref 42, am_iv (f 4005)])) = am_enc (am_ud f 4000 v) a w e := rfl
set_option maxRecDepth 100000 in
theorem am_sf4001 (v : Int) : (am_enc f a w e).set 40 (some (false, 4, [am_iv (f 4000), am_iv v, am_iv (f 4002), .ref 41, .ref 42, am_iv (f 4005)])) = am_enc (am_ud f 4001 v) a w e := rfl
set_option maxRecDepth 100000 in
theorem am_sf4002 (v : Int) : (am_enc f a w e).set 40 (some (false, 4, [am_iv (f 4000), am_iv (f 4001), am_iv v, .ref 41, .ref 42, am_iv (f 4005)])) = am_enc (am_ud f 4002 v) a w e := rfl
set_option maxRecDepth 100000 in
theorem am_sf4005 (v : Int) : (am_enc f a w e).set 40 (some (false, 4, [am_iv (f 4000), am_iv (f 4001), am_iv (f 4002), .ref 41, .ref 42, am_iv v])) = am_enc (am_ud f 4005 v) a w e := rfl
theorem am_ge41 : am_get (am_enc f a w e) 41 = some (true, 0, (a 41).map am_iv) := rfl
set_option maxRecDepth 100000 in
theorem am_sa41 (l : List Int) : (am_enc f a w e).set 41 (some (true, 0, l.map am_iv)) = am_enc f (am_ud a 41 l) w e := rfl
theorem am_ge42 : am_get (am_enc f a w e) 42 = some (true, 0, (a 42).map am_iv) := rfl
set_option maxRecDepth 100000 in
theorem am_sa42 (l : List Int) : (am_enc f a w e).set 42 (some (true, 0, l.map am_iv)) = am_enc f (am_ud a 42 l) w e := rfl
theorem am_ge43 : am_get (am_enc f a w e) 43 = some (false, 4, [am_iv (f 4300), am_iv (f 4301), am_iv (f 4302), .ref 44, .ref 45, am_iv (f 4305)]) := rfl
set_option maxRecDepth 100000 in
theorem am_sf4300 (v : Int) : (am_enc f a w e).set 43 (some (false, 4, [am_iv v, am_iv (f 4301), am_iv (f 4302), .ref 44, .ref 45, am_iv (f 4305)])) = am_enc (am_ud f 4300 v) a w e := rfl
set_option maxRecDepth 100000 in
theorem am_sf4301 (v : Int) : (am_enc f a w e).set 43 (some (false, 4, [am_iv (f 4300), am_iv v, am_iv (f 4302), .ref 44, .ref 45, am_iv (f 4305)])) = am_enc (am_ud f 4301 v) a w e := rfl
set_option maxRecDepth 100000 in
theorem am_sf4302 (v : Int) : (am_enc f a w e).set 43 (some (false, 4, [am_iv (f 4300), am_iv (f 4301), am_iv v, .ref 44, .ref 45, am_iv (f 4305)])) = am_enc (am_ud f 4302 v) a w e := rfl
set_option maxRecDepth 100000 in
theorem am_sf4305 (v : Int) : (am_enc f a w e).set 43 (some (false, 4, [am_iv (f 4300), am_iv (f 4301), am_iv (f 4302), .ref 44, .ref 45, am_iv v])) = am_enc (am_ud f 4305 v) a w e := rfl
theorem am_ge44 : am_get (am_enc f a w e) 44 = some (true, 0, (a 44).map am_iv) := rfl
set_option maxRecDepth 100000 in
theorem am_sa44 (l : List Int) : (am_enc f a w e).set 44 (some (true, 0, l.map am_iv)) = am_enc f (am_ud a 44 l) w e := rfl
theorem am_ge45 : am_get (am_enc f a w e) 45 = some (true, 0, (a 45).map am_iv) := rfl
set_option maxRecDepth 100000 in
theorem am_sa45 (l : List Int) : (am_enc f a w e).set 45 (some (true, 0, l.map am_iv)) = am_enc f (am_ud a 45 l) w e := rfl
theorem am_ge46 : am_get (am_enc f a w e) 46 = some (false, 4, [am_iv (f 4600), am_iv (f 4601), am_iv (f 4602), .ref 47, .ref 48, am_iv (f 4605)]) := rfl
set_option maxRecDepth 100000 in
theorem am_sf4600 (v : Int) : (am_enc f a w e).set 46 (some (false, 4, [am_iv v, am_iv (f 4601), am_iv (f 4602), .ref 47, .ref 48, am_iv (f 4605)])) = am_enc (am_ud f 4600 v) a w e := rfl
set_option maxRecDepth 100000 in
theorem am_sf4601 (v : Int) : (am_enc f a w e).set 46 (some (false, 4, [am_iv (f 4600), am_iv v, am_iv (f 4602), .ref 47, .ref 48, am_iv (f 4605)])) = am_enc (am_ud f 4601 v) a w e := rfl
set_option maxRecDepth 100000 in
theorem am_sf4602 (v : Int) : (am_enc f a w e).set 46 (some (false, 4, [am_iv (f 4600), am_iv (f 4601), am_iv v, .ref 47, .ref 48, am_iv (f 4605)])) = am_enc (am_ud f 4602 v) a w e := rfl
set_option maxRecDepth 100000 in
theorem am_sf4605 (v : Int) : (am_enc f a w e).set 46 (some (false, 4, [am_iv (f 4600), am_iv (f 4601), am_iv (f 4602), .ref 47, .ref 48, am_iv v])) = am_enc (am_ud f 4605 v) a w e := rfl
theorem am_ge47 : am_get (am_enc f a w e) 47 = some (true, 0, (a 47).map am_iv) := rfl
set_option maxRecDepth 100000 in
theorem am_sa47 (l : List Int) : (am_enc f a w e).set 47 (some (true, 0, l.map am_iv)) = am_enc f (am_ud a 47 l) w e := rfl
theorem am_ge48 : am_get (am_enc f a w e) 48 = some (true, 0, (a 48).map am_iv) := rfl
set_option maxRecDepth 100000 in
theorem am_sa48 (l : List Int) : (am_enc f a w e).set 48 (some (true, 0, l.map am_iv)) = am_enc f (am_ud a 48 l) w e := rfl
theorem am_ge49 : am_get (am_enc f a w e) 49 = some (false, 4, [am_iv (f 4900), am_iv (f 4901), am_iv (f 4902), .ref 50, .ref 51, am_iv (f 4905)]) := rfl
set_option maxRecDepth 100000 in
theorem am_sf4900 (v : Int) : (am_enc f a w e).set 49 (some (false, 4, [am_iv v, am_iv (f 4901), am_iv (f 4902), .ref 50, .ref 51, am_iv (f 4905)])) = am_enc (am_ud f 4900 v) a w e := rfl
set_option maxRecDepth 100000 in
theorem am_sf4901 (v : Int) : (am_enc f a w e).set 49 (some (false, 4, [am_iv (f 4900), am_iv v, am_iv (f 4902), .ref 50, .ref 51, am_iv (f 4905)])) = am_enc (am_ud f 4901 v) a w e := rfl
set_option maxRecDepth 100000 in
theorem am_sf4902 (v : Int) : (am_enc f a w e).set 49 (some (false, 4, [am_iv (f 4900), am_iv (f 4901), am_iv v, .ref 50, .ref 51, am_iv (f 4905)])) = am_enc (am_ud f 4902 v) a w e := rfl
set_option maxRecDepth 100000 in
theorem am_sf4905 (v : Int) : (am_enc f a w e).set 49 (some (false, 4, [am_iv (f 4900), am_iv (f 4901), am_iv (f 4902), .ref 50, .ref 51, am_iv v])) = am_enc (am_ud f 4905 v) a w e := rfl
theorem am_ge50 : am_get (am_enc f a w e) 50 = some (true, 0, (a 50).map am_iv) := rfl
set_option maxRecDepth 100000 in
theorem am_sa50 (l : List Int) : (am_enc f a w e).set 50 (some (true, 0, l.map am_iv)) = am_enc f (am_ud a 50 l) w e := rfl
theorem am_ge51 : am_get (am_enc f a w e) 51 = some (true, 0, (a 51).map am_iv) := rfl
set_option maxRecDepth 100000 in
theorem am_sa51 (l : List Int) : (am_enc f a w e).set 51 (some (true, 0, l.map am_iv)) = am_enc f (am_ud a 51 l) w e := rfl
theorem am_ge52 : am_get (am_enc f a w e) 52 = some (false, 4, [am_iv (f 5200), am_iv (f 5201), am_iv (f 5202), .ref 53, .ref 54, am_iv (f 5205)]) := rfl
set_option maxRecDepth 100000 in
theorem am_sf5200 (v : Int) : (am_enc f a w e).set 52 (some (false, 4, [am_iv v, am_iv (f 5201), am_iv (f 5202), .ref 53, .ref 54, am_iv (f 5205)])) = am_enc (am_ud f 5200 v) a w e := rfl
set_option maxRecDepth 100000 in
theorem am_sf5201 (v : Int) : (am_enc f a w e).set 52 (some (false, 4, [am_iv (f 5200), am_iv v, am_iv (f 5202), .ref 53, .ref 54, am_iv (f 5205)])) = am_enc (am_ud f 5201 v) a w e := rfl
set_option maxRecDepth 100000 in
theorem am_sf5202 (v : Int) : (am_enc f a w e).set 52 (some (false, 4, [am_iv (f 5200), am_iv (f 5201), am_iv v, .ref 53, .ref 54, am_iv (f 5205)])) = am_enc (am_ud f 5202 v) a w e := rfl
set_option maxRecDepth 100000 in
theorem am_sf5205 (v : Int) : (am_enc f a w e).set 52 (some (false, 4, [am_iv (f 5200), am_iv (f 5201), am_iv (f 5202), .ref 53, .ref 54, am_iv v])) = am_enc (am_ud f 5205 v) a w e := rfl
theorem am_ge53 : am_get (am_enc f a w e) 53 = some (true, 0, (a 53).map am_iv) := rfl
set_option maxRecDepth 100000 in
theorem am_sa53 (l : List Int) : (am_enc f a w e).set 53 (some (true, 0, l.map am_iv)) = am_enc f (am_ud a 53 l) w e := rfl
theorem am_ge54 : am_get (am_enc f a w e) 54 = some (true, 0, (a 54).map am_iv) := rfl
set_option maxRecDepth 100000 in
theorem am_sa54 (l : List Int) : (am_enc f a w e).set 54 (some (true, 0, l.map am_iv)) = am_enc f (am_ud a 54 l) w e := rfl
theorem am_ge55 : am_get (am_enc f a w e) 55 = some (false, 4, [am_iv (f 5500), am_iv (f 5501), am_iv (f 5502), .ref 56, .ref 57, am_iv (f 5505)]) := rfl
set_option maxRecDepth 100000 in
theorem am_sf5500 (v : Int) : (am_enc f a w e).set 55 (some (false, 4, [am_iv v, am_iv (f 5501), am_iv (f 5502), .ref 56, .ref 57, am_iv (f 5505)])) = am_enc (am_ud f 5500 v) a w e := rfl
set_option maxRecDepth 100000 in
theorem am_sf5501 (v : Int) : (am_enc f a w e).set 55 (some (false, 4, [am_iv (f 5500), am_iv v, am_iv (f 5502), .ref 56, .ref 57, am_iv (f 5505)])) = am_enc (am_ud f 5501 v) a w e := rfl
set_option maxRecDepth 100000 in
theorem am_sf5502 (v : Int) : (am_enc f a w e).set 55 (some (false, 4, [am_iv (f 5500), am_iv (f 5501), am_iv v, .ref 56, .ref 57, am_iv (f 5505)])) = am_enc (am_ud f 5502 v) a w e := rfl
set_option maxRecDepth 100000 in
theorem am_sf5505 (v : Int) : (am_enc f a w e).set 55 (some (false, 4, [am_iv (f 5500), am_iv (f 5501), am_iv (f 5502), .ref 56, .ref 57, am_iv v])) = am_enc (am_ud f 5505 v) a w e := rfl
theorem am_ge56 : am_get (am_enc f a w e) 56 = some (true, 0, (a 56).map am_iv) := rfl
set_option maxRecDepth 100000 in
theorem am_sa56 (l : List Int) : (am_enc f a w e).set 56 (some (true, 0, l.map am_iv)) = am_enc f (am_ud a 56 l) w e := rfl
theorem am_ge57 : am_get (am_enc f a w e) 57 = some (true, 0, (a 57).map am_iv) := rfl
set_option maxRecDepth 100000 in
theorem am_sa57 (l : List Int) : (am_enc f a w e).set 57 (some (true, 0, l.map am_iv)) = am_enc f (am_ud a 57 l) w e := rfl
theorem am_ge58 : am_get (am_enc f a w e) 58 = some (false, 4, [am_iv (f 5800), am_iv (f 5801), am_iv (f 5802), .ref 59, .ref 60, am_iv (f 5805)]) := rfl
set_option maxRecDepth 100000 in
theorem am_sf5800 (v : Int) : (am_enc f a w e).set 58 (some (false, 4, [am_iv v, am_iv (f 5801), am_iv (f 5802), .ref 59, .ref 60, am_iv (f 5805)])) = am_enc (am_ud f 5800 v) a w e := rfl
set_option maxRecDepth 100000 in
theorem am_sf5801 (v : Int) : (am_enc f a w e).set 58 (some (false, 4, [am_iv (f 5800), am_iv v, am_iv (f 5802), .ref 59, .ref 60, am_iv (f 5805)])) = am_enc (am_ud f 5801 v) a w e := rfl
set_option maxRecDepth 100000 in
theorem am_sf5802 (v : Int) : (am_enc f a w e).set 58 (some (false, 4, [am_iv (f 5800), am_iv (f 5801), am_iv v, .ref 59, .ref 60, am_iv (f 5805)])) = am_enc (am_ud f 5802 v) a w e := rfl
set_option maxRecDepth 100000 in
theorem am_sf5805 (v : Int) : (am_enc f a w e).set 58 (some (false, 4, [am_iv (f 5800), am_iv (f 5801), am_iv (f 5802), .ref 59, .ref 60, am_iv v])) = am_enc (am_ud f 5805 v) a w e := rfl
theorem am_ge59 : am_get (am_enc f a w e) 59 = some (true, 0, (a 59).map am_iv) := rfl
set_option maxRecDepth 100000 in
theorem am_sa59 (l : List Int) : (am_enc f a w e).set 59 (some (true, 0, l.map am_iv)) = am_enc f (am_ud a 59 l) w e := rfl
theorem am_ge60 : am_get (am_enc f a w e) 60 = some (true, 0, (a 60).map am_iv) := rfl
set_option maxRecDepth 100000 in
theorem am_sa60 (l : List Int) : (am_enc f a w e).set 60 (some (true, 0, l.map am_iv)) = am_enc f (am_ud a 60 l) w e := rfl
theorem am_ge61 : am_get (am_enc f a w e) 61 = some (false, 4, [am_iv (f 6100), am_iv (f 6101), am_iv (f 6102), .ref 62, .ref 63, am_iv (f 6105)]) := rfl
set_option maxRecDepth 100000 in
theorem am_sf6100 (v : Int) : (am_enc f a w e).set 61 (some (false, 4, [am_iv v, am_iv (f 6101), am_iv (f 6102), .ref 62, .ref 63, am_iv (f 6105)])) = am_enc (am_ud f 6100 v) a w e := rfl
set_option maxRecDepth 100000 in
theorem am_sf6101 (v : Int) : (am_enc f a w e).set 61 (some (false, 4, [am_iv (f 6100), am_iv v, am_iv (f 6102), .ref 62, .ref 63, am_iv (f 6105)])) = am_enc (am_ud f 6101 v) a w e := rfl
set_option maxRecDepth 100000 in
theorem am_sf6102 (v : Int) : (am_enc f a w e).set 61 (some (false, 4, [am_iv (f 6100), am_iv (f 6101), am_iv v, .ref 62, .ref 63, am_iv (f 6105)])) = am_enc (am_ud f 6102 v) a w e := rfl
set_option maxRecDepth 100000 in
theorem am_sf6105 (v : Int) : (am_enc f a w e).set 61 (some (false, 4, [am_iv (f 6100), am_iv (f 6101), am_iv (f 6102), .ref 62, .ref 63, am_iv v])) = am_enc (am_ud f 6105 v) a w e := rfl
theorem am_ge62 : am_get (am_enc f a w e) 62 = some (true, 0, (a 62).map am_iv) := rfl
set_option maxRecDepth 100000 in
theorem am_sa62 (l : List Int) : (am_enc f a w e).set 62 (some (true, 0, l.map am_iv)) = am_enc f (am_ud a 62 l) w e := rfl
theorem am_ge63 : am_get (am_enc f a w e) 63 = some (true, 0, (a 63).map am_iv) := rfl
set_option maxRecDepth 100000 in
theorem am_sa63 (l : List Int) : (am_enc f a w e).set 63 (some (true, 0, l.map am_iv)) = am_enc f (am_ud a 63 l) w e := rfl
theorem am_ge64 : am_get (am_enc f a w e) 64 = some (false, 4, [am_iv (f 6400), am_iv (f 6401), am_iv (f 6402), .ref 65, .ref 66, am_iv (f 6405)]) := rfl
set_option maxRecDepth 100000 in
theorem am_sf6400 (v : Int) : (am_enc f a w e).set 64 (some (false, 4, [am_iv v, am_iv (f 6401), am_iv (f 6402), .ref 65, .ref 66, am_iv (f 6405)])) = am_enc (am_ud f 6400 v) a w e := rfl
set_option maxRecDepth 100000 in
theorem am_sf6401 (v : Int) : (am_enc f a w e).set 64 (some (false, 4, [am_iv (f 6400), am_iv v, am_iv (f 6402), .ref 65, .ref 66, am_iv (f 6405)])) = am_enc (am_ud f 6401 v) a w e := rfl
set_option maxRecDepth 100000 in
theorem am_sf6402 (v : Int) : (am_enc f a w e).set 64 (some (false, 4, [am_iv (f 6400), am_iv (f 6401), am_iv v, .ref 65, .ref 66, am_iv (f 6405)])) = am_enc (am_ud f 6402 v) a w e := rfl
set_option maxRecDepth 100000 in
theorem am_sf6405 (v : Int) : (am_enc f a w e).set 64 (some (false, 4, [am_iv (f 6400), am_iv (f 6401), am_iv (f 6402), .ref 65, .ref 66, am_iv v])) = am_enc (am_ud f 6405 v) a w e := rfl
theorem am_ge65 : am_get (am_enc f a w e) 65 = some (true, 0, (a 65).map am_iv) := rfl
set_option maxRecDepth 100000 in
theorem am_sa65 (l : List Int) : (am_enc f a w e).set 65 (some (true, 0, l.map am_iv)) = am_enc f (am_ud a 65 l) w e := rfl
theorem am_ge66 : am_get (am_enc f a w e) 66 = some (true, 0, (a 66).map am_iv) := rfl
set_option maxRecDepth 100000 in
theorem am_sa66 (l : List Int) : (am_enc f a w e).set 66 (some (true, 0, l.map am_iv)) = am_enc f (am_ud a 66 l) w e := rfl
theorem am_ge67 : am_get (am_enc f a w e) 67 = some (false, 4, [am_iv (f 6700), am_iv (f 6701), am_iv (f 6702), .ref 68, .ref 69, am_iv (f 6705)]) := rfl
set_option maxRecDepth 100000 in
theorem am_sf6700 (v : Int) : (am_enc f a w e).set 67 (some (false, 4, [am_iv v, am_iv (f 6701), am_iv (f 6702), .ref 68, .ref 69, am_iv (f 6705)])) = am_enc (am_ud f 6700 v) a w e := rfl
set_option maxRecDepth 100000 in
theorem am_sf6701 (v : Int) : (am_enc f a w e).set 67 (some (false, 4, [am_iv (f 6700), am_iv v, am_iv (f 6702), .ref 68, .ref 69, am_iv (f 6705)])) = am_enc (am_ud f 6701 v) a w e := rfl
set_option maxRecDepth 100000 in
theorem am_sf6702 (v : Int) : (am_enc f a w e).set 67 (some (false, 4, [am_iv (f 6700), am_iv (f 6701), am_iv v, .ref 68, .ref 69, am_iv (f 6705)])) = am_enc (am_ud f 6702 v) a w e := rfl
set_option maxRecDepth 100000 in
theorem am_sf6705 (v : Int) : (am_enc f a w e).set 67 (some (false, 4, [am_iv (f 6700), am_iv (f 6701), am_iv (f 6702), .ref 68, .ref 69, am_iv v])) = am_enc (am_ud f 6705 v) a w e := rfl
theorem am_ge68 : am_get (am_enc f a w e) 68 = some (true, 0, (a 68).map am_iv) := rfl
set_option maxRecDepth 100000 in
theorem am_sa68 (l : List Int) : (am_enc f a w e).set 68 (some (true, 0, l.map am_iv)) = am_enc f (am_ud a 68 l) w e := rfl
theorem am_ge69 : am_get (am_enc f a w e) 69 = some (true, 0, (a 69).map am_iv) := rfl
set_option maxRecDepth 100000 in
theorem am_sa69 (l : List Int) : (am_enc f a w e).set 69 (some (true, 0, l.map am_iv)) = am_enc f (am_ud a 69 l) w e := rfl
theorem am_ge70 : am_get (am_enc f a w e) 70 = some (false, 4, [am_iv (f 7000), am_iv (f 7001), am_iv (f 7002), .ref 71, .ref 72, am_iv (f 7005)]) := rfl
set_option maxRecDepth 100000 in
theorem am_sf7000 (v : Int) : (am_enc f a w e).set 70 (some (false, 4, [am_iv v, am_iv (f 7001), am_iv (f 7002), .ref 71, .ref 72, am_iv (f 7005)])) = am_enc (am_ud f 7000 v) a w e := rfl
set_option maxRecDepth 100000 in
theorem am_sf7001 (v : Int) : (am_enc f a w e).set 70 (some (false, 4, [am_iv (f 7000), am_iv v, am_iv (f 7002), .ref 71, .ref 72, am_iv (f 7005)])) = am_enc (am_ud f 7001 v) a w e := rfl
set_option maxRecDepth 100000 in
theorem am_sf7002 (v : Int) : (am_enc f a w e).set 70 (some (false, 4, [am_iv (f 7000), am_iv (f 7001), am_iv v, .ref 71, .ref 72, am_iv (f 7005)])) = am_enc (am_ud f 7002 v) a w e := rfl
set_option maxRecDepth 100000 in
theorem am_sf7005 (v : Int) : (am_enc f a w e).set 70 (some (false, 4, [am_iv (f 7000), am_iv (f 7001), am_iv (f 7002), .ref 71, .ref 72, am_iv v])) = am_enc (am_ud f 7005 v) a w e := rfl
theorem am_ge71 : am_get (am_enc f a w e) 71 = some (true, 0, (a 71).map am_iv) := rfl
set_option maxRecDepth 100000 in
theorem am_sa71 (l : List Int) : (am_enc f a w e).set 71 (some (true, 0, l.map am_iv)) = am_enc f (am_ud a 71 l) w e := rfl
theorem am_ge72 : am_get (am_enc f a w e) 72 = some (true, 0, (a 72).map am_iv) := rfl
set_option maxRecDepth 100000 in
theorem am_sa72 (l : List Int) : (am_enc f a w e).set 72 (some (true, 0, l.map am_iv)) = am_enc f (am_ud a 72 l) w e := rfl
theorem am_ge73 : am_get (am_enc f a w e) 73 = some (false, 4, [am_iv (f 7300), am_iv (f 7301), am_iv (f 7302), .ref 74, .ref 75, am_iv (f 7305)]) := rfl
set_option maxRecDepth 100000 in
theorem am_sf7300 (v : Int) : (am_enc f a w e).set 73 (some (false, 4, [am_iv v, am_iv (f 7301), am_iv (f 7302), .ref 74, .ref 75, am_iv (f 7305)])) = am_enc (am_ud f 7300 v) a w e := rfl
set_option maxRecDepth 100000 in
theorem am_sf7301 (v : Int) : (am_enc f a w e).set 73 (some (false, 4, [am_iv (f 7300), am_iv v, am_iv (f 7302), .ref 74, .ref 75, am_iv (f 7305)])) = am_enc (am_ud f 7301 v) a w e := rfl
set_option maxRecDepth 100000 in
theorem am_sf7302 (v : Int) : (am_enc f a w e).set 73 (some (false, 4, [am_iv (f 7300), am_iv (f 7301), am_iv v, .ref 74, .ref 75, am_iv (f 7305)])) = am_enc (am_ud f 7302 v) a w e := rfl
set_option maxRecDepth 100000 in
theorem am_sf7305 (v : Int) : (am_enc f a w e).set 73 (some (false, 4, [am_iv (f 7300), am_iv (f 7301), am_iv (f 7302), .ref 74, .ref 75, am_iv v])) = am_enc (am_ud f 7305 v) a w e := rfl
theorem am_ge74 : am_get (am_enc f a w e) 74 = some (true, 0, (a 74).map am_iv) := rfl
set_option maxRecDepth 100000 in
theorem am_sa74 (l : List Int) : (am_enc f a w e).set 74 (some (true, 0, l.map am_iv)) = am_enc f (am_ud a 74 l) w e := rfl
theorem am_ge75 : am_get (am_enc f a w e) 75 = some (true, 0, (a 75).map am_iv) := rfl
set_option maxRecDepth 100000 in
theorem am_sa75 (l : List Int) : (am_enc f a w e).set 75 (some (true, 0, l.map am_iv)) = am_enc f (am_ud a 75 l) w e := rfl
theorem am_ge76 : am_get (am_enc f a w e) 76 = some (false, 4, [am_iv (f 7600), am_iv (f 7601), am_iv (f 7602), .ref 77, .ref 78, am_iv (f 7605)]) := rfl
set_option maxRecDepth 100000 in
theorem am_sf7600 (v : Int) : (am_enc f a w e).set 76 (some (false, 4, [am_iv v, am_iv (f 7601), am_iv (f 7602), .ref 77, .ref 78, am_iv (f 7605)])) = am_enc (am_ud f 7600 v) a w e := rfl
set_option maxRecDepth 100000 in
theorem am_sf7601 (v : Int) : (am_enc f a w e).set 76 (some (false, 4, [am_iv (f 7600), am_iv v, am_iv (f 7602), .ref 77, .ref 78, am_iv (f 7605)])) = am_enc (am_ud f 7601 v) a w e := rfl
set_option maxRecDepth 100000 in
theorem am_sf7602 (v : Int) : (am_enc f a w e).set 76 (some (false, 4, [am_iv (f 7600), am_iv (f 7601), am_iv v, .ref 77, .ref 78, am_iv (f 7605)])) = am_enc (am_ud f 7602 v) a w e := rfl
set_option maxRecDepth 100000 in
theorem am_sf7605 (v : Int) : (am_enc f a w e).set 76 (some (false, 4, [am_iv (f 7600), am_iv (f 7601), am_iv (f 7602), .ref 77, .ref 78, am_iv v])) = am_enc (am_ud f 7605 v) a w e := rfl
theorem am_ge77 : am_get (am_enc f a w e) 77 = some (true, 0, (a 77).map am_iv) := rfl
set_option maxRecDepth 100000 in
theorem am_sa77 (l : List Int) : (am_enc f a w e).set 77 (some (true, 0, l.map am_iv)) = am_enc f (am_ud a 77 l) w e := rfl
theorem am_ge78 : am_get (am_enc f a w e) 78 = some (true, 0, (a 78).map am_iv) := rfl
set_option maxRecDepth 100000 in
theorem am_sa78 (l : List Int) : (am_enc f a w e).set 78 (some (true, 0, l.map am_iv)) = am_enc f (am_ud a 78 l) w e := rfl
theorem am_ge79 : am_get (am_enc f a w e) 79 = some (false, 4, [am_iv (f 7900), am_iv (f 7901), am_iv (f 7902), .ref 80, .ref 81, am_iv (f 7905)]) := rfl
set_option maxRecDepth 100000 in
theorem am_sf7900 (v : Int) : (am_enc f a w e).set 79 (some (false, 4, [am_iv v, am_iv (f 7901), am_iv (f 7902), .ref 80, .ref 81, am_iv (f 7905)])) = am_enc (am_ud f 7900 v) a w e := rfl
set_option maxRecDepth 100000 in
theorem am_sf7901 (v : Int) : (am_enc f a w e).set 79 (some (false, 4, [am_iv (f 7900), am_iv v, am_iv (f 7902), .ref 80, .ref 81, am_iv (f 7905)])) = am_enc (am_ud f 7901 v) a w e := rfl
set_option maxRecDepth 100000 in
theorem am_sf7902 (v : Int) : (am_enc f a w e).set 79 (some (false, 4, [am_iv (f 7900), am_iv (f 7901), am_iv v, .ref 80, .ref 81, am_iv (f 7905)])) = am_enc (am_ud f 7902 v) a w e := rfl
set_option maxRecDepth 100000 in
theorem am_sf7905 (v : Int) : (am_enc f a w e).set 79 (some (false, 4, [am_iv (f 7900), am_iv (f 7901), am_iv (f 7902), .ref 80, .ref 81, am_iv v])) = am_enc (am_ud f 7905 v) a w e := rfl
theorem am_ge80 : am_get (am_enc f a w e) 80 = some (true, 0, (a 80).map am_iv) := rfl
set_option maxRecDepth 100000 in
theorem am_sa80 (l : List Int) : (am_enc f a w e).set 80 (some (true, 0, l.map am_iv)) = am_enc f (am_ud a 80 l) w e := rfl
theorem am_ge81 : am_get (am_enc f a w e) 81 = some (true, 0, (a 81).map am_iv) := rfl
set_option maxRecDepth 100000 in
theorem am_sa81 (l : List Int) : (am_enc f a w e).set 81 (some (true, 0, l.map am_iv)) = am_enc f (am_ud a 81 l) w e := rfl
theorem am_ge82 : am_get (am_enc f a w e) 82 = some (false, 4, [am_iv (f 8200), am_iv (f 8201), am_iv (f 8202), .ref 83, .ref 84, am_iv (f 8205)]) := rfl
set_option maxRecDepth 100000 in
theorem am_sf8200 (v : Int) : (am_enc f a w e).set 82 (some (false, 4, [am_iv v, am_iv (f 8201), am_iv (f 8202), .ref 83, .ref 84, am_iv (f 8205)])) = am_enc (am_ud f 8200 v) a w e := rfl
set_option maxRecDepth 100000 in
theorem am_sf8201 (v : Int) : (am_enc f a w e).set 82 (some (false, 4, [am_iv (f 8200), am_iv v, am_iv (f 8202), .ref 83, .ref 84, am_iv (f 8205)])) = am_enc (am_ud f 8201 v) a w e := rfl
set_option maxRecDepth 100000 in
theorem am_sf8202 (v : Int) : (am_enc f a w e).set 82 (some (false, 4, [am_iv (f 8200), am_iv (f 8201), am_iv v, .ref 83, .ref 84, am_iv (f 8205)])) = am_enc (am_ud f 8202 v) a w e := rfl
set_option maxRecDepth 100000 in
theorem am_sf8205 (v : Int) : (am_enc f a w e).set 82 (some (false, 4, [am_iv (f 8200), am_iv (f 8201), am_iv (f 8202), .ref 83, .ref 84, am_iv v])) = am_enc (am_ud f 8205 v) a w e := rfl
theorem am_ge83 : am_get (am_enc f a w e) 83 = some (true, 0, (a 83).map am_iv) := rfl
set_option maxRecDepth 100000 in
theorem am_sa83 (l : List Int) : (am_enc f a w e).set 83 (some (true, 0, l.map am_iv)) = am_enc f (am_ud a 83 l) w e := rfl
theorem am_ge84 : am_get (am_enc f a w e) 84 = some (true, 0, (a 84).map am_iv) := rfl
set_option maxRecDepth 100000 in
theorem am_sa84 (l : List Int) : (am_enc f a w e).set 84 (some (true, 0, l.map am_iv)) = am_enc f (am_ud a 84 l) w e := rfl
theorem am_ge85 : am_get (am_enc f a w e) 85 = some (false, 4, [am_iv (f 8500), am_iv (f 8501), am_iv (f 8502), .ref 86, .ref 87, am_iv (f 8505)]) := rfl
set_option maxRecDepth 100000 in
theorem am_sf8500 (v : Int) : (am_enc f a w e).set 85 (some (false, 4, [am_iv v, am_iv (f 8501), am_iv (f 8502), .ref 86, .ref 87, am_iv (f 8505)])) = am_enc (am_ud f 8500 v) a w e := rfl
set_option maxRecDepth 100000 in
theorem am_sf8501 (v : Int) : (am_enc f a w e).set 85 (some (false, 4, [am_iv (f 8500), am_iv v, am_iv (f 8502), .ref 86, .ref 87, am_iv (f 8505)])) = am_enc (am_ud f 8501 v) a w e := rfl
set_option maxRecDepth 100000 in
theorem am_sf8502 (v : Int) : (am_enc f a w e).set 85 (some (false, 4, [am_iv (f 8500), am_iv (f 8501), am_iv v, .ref 86, .ref 87, am_iv (f 8505)])) = am_enc (am_ud f 8502 v) a w e := rfl
set_option maxRecDepth 100000 in
theorem am_sf8505 (v : Int) : (am_enc f a w e).set 85 (some (false, 4, [am_iv (f 8500), am_iv (f 8501), am_iv (f 8502), .ref 86, .ref 87, am_iv v])) = am_enc (am_ud f 8505 v) a w e := rfl
theorem am_ge86 : am_get (am_enc f a w e) 86 = some (true, 0, (a 86).map am_iv) := rfl
set_option maxRecDepth 100000 in
theorem am_sa86 (l : List Int) : (am_enc f a w e).set 86 (some (true, 0, l.map am_iv)) = am_enc f (am_ud a 86 l) w e := rfl
theorem am_ge87 : am_get (am_enc f a w e) 87 = some (true, 0, (a 87).map am_iv) := rfl
set_option maxRecDepth 100000 in
theorem am_sa87 (l : List Int) : (am_enc f a w e).set 87 (some (true, 0, l.map am_iv)) = am_enc f (am_ud a 87 l) w e := rfl
theorem am_ge88 : am_get (am_enc f a w e) 88 = some (false, 4, [am_iv (f 8800), am_iv (f 8801), am_iv (f 8802), .ref 89, .ref 90, am_iv (f 8805)]) := rfl
set_option maxRecDepth 100000 in
theorem am_sf8800 (v : Int) : (am_enc f a w e).set 88 (some (false, 4, [am_iv v, am_iv (f 8801), am_iv (f 8802), .ref 89, .ref 90, am_iv (f 8805)])) = am_enc (am_ud f 8800 v) a w e := rfl
set_option maxRecDepth 100000 in
theorem am_sf8801 (v : Int) : (am_enc f a w e).set 88 (some (false, 4, [am_iv (f 8800), am_iv v, am_iv (f 8802), .ref 89, .ref 90, am_iv (f 8805)])) = am_enc (am_ud f 8801 v) a w e := rfl
set_option maxRecDepth 100000 in
theorem am_sf8802 (v : Int) : (am_enc f a w e).set 88 (some (false, 4, [am_iv (f 8800), am_iv (f 8801), am_iv v, .ref 89, .ref 90, am_iv (f 8805)])) = am_enc (am_ud f 8802 v) a w e := rfl
set_option maxRecDepth 100000 in
theorem am_sf8805 (v : Int) : (am_enc f a w e).set 88 (some (false, 4, [am_iv (f 8800), am_iv (f 8801), am_iv (f 8802), .ref 89, .ref 90, am_iv v])) = am_enc (am_ud f 8805 v) a w e := rfl
theorem am_ge89 : am_get (am_enc f a w e) 89 = some (true, 0, (a 89).map am_iv) := rfl
set_option maxRecDepth 100000 in
theorem am_sa89 (l : List Int) : (am_enc f a w e).set 89 (some (true, 0, l.map am_iv)) = am_enc f (am_ud a 89 l) w e := rfl
theorem am_ge90 : am_get (am_enc f a w e) 90 = some (true, 0, (a 90).map am_iv) := rfl
set_option maxRecDepth 100000 in
theorem am_sa90 (l : List Int) : (am_enc f a w e).set 90 (some (true, 0, l.map am_iv)) = am_enc f (am_ud a 90 l) w e := rfl
theorem am_ge91 : am_get (am_enc f a w e) 91 = some (false, 4, [am_iv (f 9100), am_iv (f 9101), am_iv (f 9102), .ref 92, .ref 93, am_iv (f 9105)]) := rfl
set_option maxRecDepth 100000 in
theorem am_sf9100 (v : Int) : (am_enc f a w e).set 91 (some (false, 4, [am_iv v, am_iv (f 9101), am_iv (f 9102), .ref 92, .ref 93, am_iv (f 9105)])) = am_enc (am_ud f 9100 v) a w e := rfl
set_option maxRecDepth 100000 in
theorem am_sf9101 (v : Int) : (am_enc f a w e).set 91 (some (false, 4, [am_iv (f 9100), am_iv v, am_iv (f 9102), .ref 92, .ref 93, am_iv (f 9105)])) = am_enc (am_ud f 9101 v) a w e := rfl
set_option maxRecDepth 100000 in
theorem am_sf9102 (v : Int) : (am_enc f a w e).set 91 (some (false, 4, [am_iv (f 9100), am_iv (f 9101), am_iv v, .ref 92, .ref 93, am_iv (f 9105)])) = am_enc (am_ud f 9102 v) a w e := rfl
set_option maxRecDepth 100000 in
theorem am_sf9105 (v : Int) : (am_enc f a w e).set 91 (some (false, 4, [am_iv (f 9100), am_iv (f 9101), am_iv (f 9102), .ref 92, .ref 93, am_iv v])) = am_enc (am_ud f 9105 v) a w e := rfl
theorem am_ge92 : am_get (am_enc f a w e) 92 = some (true, 0, (a 92).map am_iv) := rfl
set_option maxRecDepth 100000 in
theorem am_sa92 (l : List Int) : (am_enc f a w e).set 92 (some (true, 0, l.map am_iv)) = am_enc f (am_ud a 92 l) w e := rfl
theorem am_ge93 : am_get (am_enc f a w e) 93 = some (true, 0, (a 93).map am_iv) := rfl
set_option maxRecDepth 100000 in
theorem am_sa93 (l : List Int) : (am_enc f a w e).set 93 (some (true, 0, l.map am_iv)) = am_enc f (am_ud a 93 l) w e := rfl
theorem am_ge94 : am_get (am_enc f a w e) 94 = some (false, 4, [am_iv (f 9400), am_iv (f 9401), am_iv (f 9402), .ref 95, .ref 96, am_iv (f 9405)]) := rfl
set_option maxRecDepth 100000 in
theorem am_sf9400 (v : Int) : (am_enc f a w e).set 94 (some (false, 4, [am_iv v, am_iv (f 9401), am_iv (f 9402), .ref 95, .ref 96, am_iv (f 9405)])) = am_enc (am_ud f 9400 v) a w e := rfl
set_option maxRecDepth 100000 in
theorem am_sf9401 (v : Int) : (am_enc f a w e).set 94 (some (false, 4, [am_iv (f 9400), am_iv v, am_iv (f 9402), .ref 95, .ref 96, am_iv (f 9405)])) = am_enc (am_ud f 9401 v) a w e := rfl
set_option maxRecDepth 100000 in
theorem am_sf9402 (v : Int) : (am_enc f a w e).set 94 (some (false, 4, [am_iv (f 9400), am_iv (f 9401), am_iv v, .ref 95, .ref 96, am_iv (f 9405)])) = am_enc (am_ud f 9402 v) a w e := rfl
set_option maxRecDepth 100000 in
theorem am_sf9405 (v : Int) : (am_enc f a w e).set 94 (some (false, 4, [am_iv (f 9400), am_iv (f 9401), am_iv (f 9402), .ref 95, .ref 96, am_iv v])) = am_enc (am_ud f 9405 v) a w e := rfl
theorem am_ge95 : am_get (am_enc f a w e) 95 = some (true, 0, (a 95).map am_iv) := rfl
set_option maxRecDepth 100000 in
theorem am_sa95 (l : List Int) : (am_enc f a w e).set 95 (some (true, 0, l.map am_iv)) = am_enc f (am_ud a 95 l) w e := rfl
theorem am_ge96 : am_get (am_enc f a w e) 96 = some (true, 0, (a 96).map am_iv) := rfl
set_option maxRecDepth 100000 in
theorem am_sa96 (l : List Int) : (am_enc f a w e).set 96 (some (true, 0, l.map am_iv)) = am_enc f (am_ud a 96 l) w e := rfl
theorem am_ge97 : am_get (am_enc f a w e) 97 = some (false, 4, [am_iv (f 9700), am_iv (f 9701), am_iv (f 9702), .ref 98, .ref 99, am_iv (f 9705)]) := rfl
set_option maxRecDepth 100000 in
theorem am_sf9700 (v : Int) : (am_enc f a w e).set 97 (some (false, 4, [am_iv v, am_iv (f 9701), am_iv (f 9702), .ref 98, .ref 99, am_iv (f 9705)])) = am_enc (am_ud f 9700 v) a w e := rfl
set_option maxRecDepth 100000 in
theorem am_sf9701 (v : Int) : (am_enc f a w e).set 97 (some (false, 4, [am_iv (f 9700), am_iv v, am_iv (f 9702), .ref 98, .ref 99, am_iv (f 9705)])) = am_enc (am_ud f 9701 v) a w e := rfl
set_option maxRecDepth 100000 in
theorem am_sf9702 (v : Int) : (am_enc f a w e).set 97 (some (false, 4, [am_iv (f 9700), am_iv (f 9701), am_iv v, .ref 98, .ref 99, am_iv (f 9705)])) = am_enc (am_ud f 9702 v) a w e := rfl
set_option maxRecDepth 100000 in
theorem am_sf9705 (v : Int) : (am_enc f a w e).set 97 (some (false, 4, [am_iv (f 9700), am_iv (f 9701), am_iv (f 9702), .ref 98, .ref 99, am_iv v])) = am_enc (am_ud f 9705 v) a w e := rfl
theorem am_ge98 : am_get (am_enc f a w e) 98 = some (true, 0, (a 98).map am_iv) := rfl
set_option maxRecDepth 100000 in
theorem am_sa98 (l : List Int) : (am_enc f a w e).set 98 (some (true, 0, l.map am_iv)) = am_enc f (am_ud a 98 l) w e := rfl
theorem am_ge99 : am_get (am_enc f a w e) 99 = some (true, 0, (a 99).map am_iv) := rfl
set_option maxRecDepth 100000 in
theorem am_sa99 (l : List Int) : (am_enc f a w e).set 99 (some (true, 0, l.map am_iv)) = am_enc f (am_ud a 99 l) w e := rfl
theorem am_ge100 : am_get (am_enc f a w e) 100 = some (false, 4, [am_iv (f 10000), am_iv (f 10001), am_iv (f 10002), .ref 101, .ref 102, am_iv (f 10005)]) := rfl
set_option maxRecDepth 100000 in
theorem am_sf10000 (v : Int) : (am_enc f a w e).set 100 (some (false, 4, [am_iv v, am_iv (f 10001), am_iv (f 10002), .ref 101, .ref 102, am_iv (f 10005)])) = am_enc (am_ud f 10000 v) a w e := rfl
set_option maxRecDepth 100000 in
theorem am_sf10001 (v : Int) : (am_enc f a w e).set 100 (some (false, 4, [am_iv (f 10000), am_iv v, am_iv (f 10002), .ref 101, .ref 102, am_iv (f 10005)])) = am_enc (am_ud f 10001 v) a w e := rfl
set_option maxRecDepth 100000 in
theorem am_sf10002 (v : Int) : (am_enc f a w e).set 100 (some (false, 4, [am_iv (f 10000), am_iv (f 10001), am_iv v, .ref 101, .ref 102, am_iv (f 10005)])) = am_enc (am_ud f 10002 v) a w e := rfl
set_option maxRecDepth 100000 in
theorem am_sf10005 (v : Int) : (am_enc f a w e).set 100 (some (false, 4, [am_iv (f 10000), am_iv (f 10001), am_iv (f 10002), .ref 101, .ref 102, am_iv v])) = am_enc (am_ud f 10005 v) a w e := rfl
theorem am_ge101 : am_get (am_enc f a w e) 101 = some (true, 0, (a 101).map am_iv) := rfl
set_option maxRecDepth 100000 in
theorem am_sa101 (l : List Int) : (am_enc f a w e).set 101 (some (true, 0, l.map am_iv)) = am_enc f (am_ud a 101 l) w e := rfl
theorem am_ge102 : am_get (am_enc f a w e) 102 = some (true, 0, (a 102).map am_iv) := rfl
set_option maxRecDepth 100000 in
theorem am_sa102 (l : List Int) : (am_enc f a w e).set 102 (some (true, 0, l.map am_iv)) = am_enc f (am_ud a 102 l) w e := rfl
theorem am_ge103 : am_get (am_enc f a w e) 103 = some (false, 4, [am_iv (f 10300), am_iv (f 10301), am_iv (f 10302), .ref 104, .ref 105, am_iv (f 10305)]) := rfl
set_option maxRecDepth 100000 in
theorem am_sf10300 (v : Int) : (am_enc f a w e).set 103 (some (false, 4, [am_iv v, am_iv (f 10301), am_iv (f 10302), .ref 104, .ref 105, am_iv (f 10305)])) = am_enc (am_ud f 10300 v) a w e := rfl
set_option maxRecDepth 100000 in
theorem am_sf10301 (v : Int) : (am_enc f a w e).set 103 (some (false, 4, [am_iv (f 10300), am_iv v, am_iv (f 10302), .ref 104, .ref 105, am_iv (f 10305)])) = am_enc (am_ud f 10301 v) a w e := rfl
set_option maxRecDepth 100000 in
theorem am_sf10302 (v : Int) : (am_enc f a w e).set 103 (some (false, 4, [am_iv (f 10300), am_iv (f 10301), am_iv v, .ref 104, .ref 105, am_iv (f 10305)])) = am_enc (am_ud f 10302 v) a w e := rfl
set_option maxRecDepth 100000 in
theorem am_sf10305 (v : Int) : (am_enc f a w e).set 103 (some (false, 4, [am_iv (f 10300), am_iv (f 10301), am_iv (f 10302), .ref 104, .ref 105, am_iv v])) = am_enc (am_ud f 10305 v) a w e := rfl
theorem am_ge104 : am_get (am_enc f a w e) 104 = some (true, 0, (a 104).map am_iv) := rfl
set_option maxRecDepth 100000 in
theorem am_sa104 (l : List Int) : (am_enc f a w e).set 104 (some (true, 0, l.map am_iv)) = am_enc f (am_ud a 104 l) w e := rfl
theorem am_ge105 : am_get (am_enc f a w e) 105 = some (true, 0, (a 105).map am_iv) := rfl
set_option maxRecDepth 100000 in
theorem am_sa105 (l : List Int) : (am_enc f a w e).set 105 (some (true, 0, l.map am_iv)) = am_enc f (am_ud a 105 l) w e := rfl
theorem am_ge106 : am_get (am_enc f a w e) 106 = some (false, 1, [.ref 107, .ref 108, .ref 109, .ref 110, .ref 111, .ref 112, am_iv (f 10606), am_iv (f 10607)]) := rfl
set_option maxRecDepth 100000 in
theorem am_sf10606 (v : Int) : (am_enc f a w e).set 106 (some (false, 1, [.ref 107, .ref 108, .ref 109, .ref 110, .ref 111, .ref 112, am_iv v, am_iv (f 10607)])) = am_enc (am_ud f 10606 v) a w e := rfl
set_option maxRecDepth 100000 in
theorem am_sf10607 (v : Int) : (am_enc f a w e).set 106 (some (false, 1, [.ref 107, .ref 108, .ref 109, .ref 110, .ref 111, .ref 112, am_iv (f 10606), am_iv v])) = am_enc (am_ud f 10607 v) a w e := rfl
theorem am_ge107 : am_get (am_enc f a w e) 107 = some (true, 0, (a 107).map am_iv) := rfl
set_option maxRecDepth 100000 in
theorem am_sa107 (l : List Int) : (am_enc f a w e).set 107 (some (true, 0, l.map am_iv)) = am_enc f (am_ud a 107 l) w e := rfl
theorem am_ge108 : am_get (am_enc f a w e) 108 = some (true, 0, (a 108).map am_iv) := rfl
set_option maxRecDepth 100000 in
theorem am_sa108 (l : List Int) : (am_enc f a w e).set 108 (some (true, 0, l.map am_iv)) = am_enc f (am_ud a 108 l) w e := rfl
theorem am_ge109 : am_get (am_enc f a w e) 109 = some (true, 0, (a 109).map am_iv) := rfl
set_option maxRecDepth 100000 in
theorem am_sa109 (l : List Int) : (am_enc f a w e).set 109 (some (true, 0, l.map am_iv)) = am_enc f (am_ud a 109 l) w e := rfl
theorem am_ge110 : am_get (am_enc f a w e) 110 = some (true, 0, (a 110).map am_iv) := rfl
set_option maxRecDepth 100000 in
theorem am_sa110 (l : List Int) : (am_enc f a w e).set 110 (some (true, 0, l.map am_iv)) = am_enc f (am_ud a 110 l) w e := rfl
theorem am_ge111 : am_get (am_enc f a w e) 111 = some (true, 0, (a 111).map am_iv) := rfl
set_option maxRecDepth 100000 in
theorem am_sa111 (l : List Int) : (am_enc f a w e).set 111 (some (true, 0, l.map am_iv)) = am_enc f (am_ud a 111 l) w e := rfl
theorem am_ge112 : am_get (am_enc f a w e) 112 = some (true, 0, (a 112).map am_iv) := rfl
set_option maxRecDepth 100000 in
theorem am_sa112 (l : List Int) : (am_enc f a w e).set 112 (some (true, 0, l.map am_iv)) = am_enc f (am_ud a 112 l) w e := rfl
theorem am_ge113 : am_get (am_enc f a w e) 113 = some (false, 8, [.ref 2, .ref 4, .ref 10, .ref 17, .ref 106]) := rfl
theorem am_ge114 : am_get (am_enc f a w e) 114 = some (false, 2, [.ref 2, .ref 12, .ref 17, .ref 106, .ref 115, .ref 116, am_iv (f 11406), am_iv (f 11407)]) := rfl
set_option maxRecDepth 100000 in
theorem am_sf11406 (v : Int) : (am_enc f a w e).set 114 (some (false, 2, [.ref 2, .ref 12, .ref 17, .ref 106, .ref 115, .ref 116, am_iv v, am_iv (f 11407)])) = am_enc (am_ud f 11406 v) a w e := rfl
set_option maxRecDepth 100000 in
theorem am_sf11407 (v : Int) : (am_enc f a w e).set 114 (some (false, 2, [.ref 2, .ref 12, .ref 17, .ref 106, .ref 115, .ref 116, am_iv (f 11406), am_iv v])) = am_enc (am_ud f 11407 v) a w e := rfl
theorem am_ge115 : am_get (am_enc f a w e) 115 = some (true, 0, (a 115).map am_iv) := rfl
set_option maxRecDepth 100000 in
theorem am_sa115 (l : List Int) : (am_enc f a w e).set 115 (some (true, 0, l.map am_iv)) = am_enc f (am_ud a 115 l) w e := rfl
theorem am_ge116 : am_get (am_enc f a w e) 116 = some (true, 0, (a 116).map am_iv) := rfl
set_option maxRecDepth 100000 in
theorem am_sa116 (l : List Int) : (am_enc f a w e).set 116 (some (true, 0, l.map am_iv)) = am_enc f (am_ud a 116 l) w e := rfl
theorem am_ge117 : am_get (am_enc f a w e) 117 = some (false, 11, [am_iv (f 11700), am_iv (f 11701), am_iv (f 11702), am_iv (f 11703), am_iv (f 11704), .ref 118, .ref 119, am_iv (f 11707), .ref 120, am_iv (f 11709), .ref 121, .ref 122, .ref 123, am_iv (f 11713), .ref 124, .ref 125, .ref 126, .ref 127, am_iv (f 11718), .ref 128, .ref 129, .ref 130, .ref 131, am_iv (f 11723), am_iv (f 11724), .ref 132, .ref 133, .ref 134, .ref 135, .ref 136, .ref 137, .ref 138, .ref 139, .ref 140, .ref 141, .ref 142, .ref 143, .ref 144, am_iv (f 11738), am_iv (f 11739), am_iv (f 11740), am_iv (f 11741), .ref 145, .ref 146, .ref 147, .ref 148, .ref 149, .ref 150, .ref 151, .ref 152, am_iv (f 11750), .ref 153, .ref 154, am_iv (f 11753), .ref 155, am_iv (f 11755), .ref 156, am_iv (f 11757), .ref 157, .ref 158, .ref 159, .ref 160, .ref 161, am_iv (f 11763), .ref 162]) := rfl
set_option maxRecDepth 100000 in
theorem am_sf11700 (v : Int) : (am_enc f a w e).set 117 (some (false, 11, [am_iv v, am_iv (f 11701), am_iv (f 11702), am_iv (f 11703), am_iv (f 11704), .ref 118, .ref 119, am_iv (f 11707), .ref 120, am_iv (f 11709), .ref 121, .ref 122, .ref 123, am_iv (f 11713), .ref 124, .ref 125, .ref 126, .ref 127, am_iv (f 11718), .ref 128, .ref 129, .ref 130, .ref 131, am_iv (f 11723), am_iv (f 11724), .ref 132, .ref 133, .ref 134, .ref 135, .ref 136, .ref 137, .ref 138, .ref 139, .ref 140, .ref 141, .ref 142, .ref 143, .ref 144, am_iv (f 11738), am_iv (f 11739), am_iv (f 11740), am_iv (f 11741), .ref 145, .ref 146, .ref 147, .ref 148, .ref 149, .ref 150, .ref 151, .ref 152, am_iv (f 11750), .ref 153, .ref 154, am_iv (f 11753), .ref 155, am_iv (f 11755), .ref 156, am_iv (f 11757), .ref 157, .ref 158, .ref 159, .ref 160, .ref 161, am_iv (f 11763), .ref 162])) = am_enc (am_ud f 11700 v) a w e := rfl
set_option maxRecDepth 100000 in
theorem am_sf11701 (v : Int) : (am_enc f a w e).set 117 (some (false, 11, [am_iv (f 11700), am_iv v, am_iv (f 11702), am_iv (f 11703), am_iv (f 11704), .ref 118, .ref 119, am_iv (f 11707), .ref 120, am_iv (f 11709), .ref 121, .ref 122, .ref 123, am_iv (f 11713), .ref 124, .ref 125, .ref 126, .ref 127, am_iv (f 11718), .ref 128, .ref 129, .ref 130, .ref 131, am_iv (f 11723), am_iv (f 11724), .ref 132, .ref 133, .ref 134, .ref 135, .ref 136, .ref 137, .ref 138, .ref 139, .ref 140, .ref 141, .ref 142, .ref 143, .ref 144, am_iv (f 11738), am_iv (f 11739), am_iv (f 11740), am_iv (f 11741), .ref 145, .ref 146, .ref 147, .ref 148, .ref 149, .ref 150, .ref 151, .ref 152, am_iv (f 11750), .ref 153, .ref 154, am_iv (f 11753), .ref 155, am_iv (f 11755), .ref 156, am_iv (f 11757), .ref 157, .ref 158, .ref 159, .ref 160, .ref 161, am_iv (f 11763), .ref 162])) = am_enc (am_ud f 11701 v) a w e := rfl
set_option maxRecDepth 100000 in
theorem am_sf11702 (v : Int) : (am_enc f a w e).set 117 (some (false, 11, [am_iv (f 11700), am_iv (f 11701), am_iv v, am_iv (f 11703), am_iv (f 11704), .ref 118, .ref 119, am_iv (f 11707), .ref 120, am_iv (f 11709), .ref 121, .ref 122, .ref 123, am_iv (f 11713), .ref 124, .ref 125, .ref 126, .ref 127, am_iv (f 11718), .ref 128, .ref 129, .ref 130, .ref 131, am_iv (f 11723), am_iv (f 11724), .ref 132, .ref 133, .ref 134, .ref 135, .ref 136, .ref 137, .ref 138, .ref 139, .ref 140, .ref 141, .ref 142, .ref 143, .ref 144, am_iv (f 11738), am_iv (f 11739), am_iv (f 11740), am_iv (f 11741), .ref 145, .ref 146, .ref 147, .ref 148, .ref 149, .ref 150, .ref 151, .ref 152, am_iv (f 11750), .ref 153, .ref 154, am_iv (f 11753), .ref 155, am_iv (f 11755), .ref 156, am_iv (f 11757), .ref 157, .ref 158, .ref 159, .ref 160, .ref 161, am_iv (f 11763), .ref 162])) = am_enc (am_ud f 11702 v) a w e := rfl
set_option maxRecDepth 100000 in
theorem am_sf11703 (v : Int) : (am_enc f a w e).set 117 (some (false, 11, [am_iv (f 11700), am_iv (f 11701), am_iv (f 11702), am_iv v, am_iv (f 11704), .ref 118, .ref 119, am_iv (f 11707), .ref 120, am_iv (f 11709), .ref 121, .ref 122, .ref 123, am_iv (f 11713), .ref 124, .ref 125, .ref 126, .ref 127, am_iv (f 11718), .ref 128, .ref 129, .ref 130, .ref 131, am_iv (f 11723), am_iv (f 11724), .ref 132, .ref 133, .ref 134, .ref 135, .ref 136, .ref 137, .ref 138, .ref 139, .ref 140, .ref 141, .ref 142, .ref 143, .ref 144, am_iv (f 11738), am_iv (f 11739), am_iv (f 11740), am_iv (f 11741), .ref 145, .ref 146, .ref 147, .ref 148, .ref 149, .ref 150, .ref 151, .ref 152, am_iv (f 11750), .ref 153, .ref 154, am_iv (f 11753), .ref 155, am_iv (f 11755), .ref 156, am_iv (f 11757), .ref 157, .ref 158, .ref 159, .ref 160, .ref 161, am_iv (f 11763), .ref 162])) = am_enc (am_ud f 11703 v) a w e := rfl
set_option maxRecDepth 100000 in
theorem am_sf11704 (v : Int) : (am_enc f a w e).set 117 (some (false, 11, [am_iv (f 11700), am_iv (f 11701), am_iv (f 11702), am_iv (f 11703), am_iv v, .ref 118, .ref 119, am_iv (f 11707), .ref 120, am_iv (f 11709), .ref 121, .ref 122, .ref 123, am_iv (f 11713), .ref 124, .ref 125, .ref 126, .ref 127, am_iv (f 11718), .ref 128, .ref 129, .ref 130, .ref 131, am_iv (f 11723), am_iv (f 11724), .ref 132, .ref 133, .ref 134, .ref 135, .ref 136, .ref 137, .ref 138, .ref 139, .ref 140, .ref 141, .ref 142, .ref 143, .ref 144, am_iv (f 11738), am_iv (f 11739), am_iv (f 11740), am_iv (f 11741), .ref 145, .ref 146, .ref 147, .ref 148, .ref 149, .ref 150, .ref 151, .ref 152, am_iv (f 11750), .ref 153, .ref 154, am_iv (f 11753), .ref 155, am_iv (f 11755), .ref 156, am_iv (f 11757), .ref 157, .ref 158, .ref 159, .ref 160, .ref 161, am_iv (f 11763), .ref 162])) = am_enc (am_ud f 11704 v) a w e := rfl
set_option maxRecDepth 100000 in
theorem am_sf11707 (v : Int) : (am_enc f a w e).set 117 (some (false, 11, [am_iv (f 11700), am_iv (f 11701), am_iv (f 11702), am_iv (f 11703), am_iv (f 11704), .ref 118, .ref 119, am_iv v, .ref 120, am_iv (f 11709), .ref 121, .ref 122, .ref 123, am_iv (f 11713), .ref 124, .ref 125, .ref 126, .ref 127, am_iv (f 11718), .ref 128, .ref 129, .ref 130, .ref 131, am_iv (f 11723), am_iv (f 11724), .ref 132, .ref 133, .ref 134, .ref 135, .ref 136, .ref 137, .ref 138, .ref 139, .ref 140, .ref 141, .ref 142, .ref 143, .ref 144, am_iv (f 11738), am_iv (f 11739), am_iv (f 11740), am_iv (f 11741), .ref 145, .ref 146, .ref 147, .ref 148, .ref 149, .ref 150, .ref 151, .ref 152, am_iv (f 11750), .ref 153, .ref 154, am_iv (f 11753), .ref 155, am_iv (f 11755), .ref 156, am_iv (f 11757), .ref 157, .ref 158, .ref 159, .ref 160, .ref 161, am_iv (f 11763), .ref 162])) = am_enc (am_ud f 11707 v) a w e := rfl
set_option maxRecDepth 100000 in
theorem am_sf11709 (v : Int) : (am_enc f a w e).set 117 (some (false, 11, [am_iv (f 11700), am_iv (f 11701), am_iv (f 11702), am_iv (f 11703), am_iv (f 11704), .ref 118, .ref 119, am_iv (f 11707), .ref 120, am_iv v, .ref 121, .ref 122, .ref 123, am_iv (f 11713), .ref 124, .ref 125, .ref 126, .ref 127, am_iv (f 11718), .ref 128, .ref 129, .ref 130, .ref 131, am_iv (f 11723), am_iv (f 11724), .ref 132, .ref 133, .ref 134, .ref 135, .ref 136, .ref 137, .ref 138, .ref 139, .ref 140, .ref 141, .ref 142, .ref 143, .ref 144, am_iv (f 11738), am_iv (f 11739), am_iv (f 11740), am_iv (f 11741), .ref 145, .ref 146, .ref 147, .ref 148, .ref 149, .ref 150, .ref 151, .ref 152, am_iv (f 11750), .ref 153, .ref 154, am_iv (f 11753), .ref 155, am_iv (f 11755), .ref 156, am_iv (f 11757), .ref 157, .ref 158, .ref 159, .ref 160, .ref 161, am_iv (f 11763), .ref 162])) = am_enc (am_ud f 11709 v) a w e := rfl
set_option maxRecDepth 100000 in
theorem am_sf11713 (v : Int) : (am_enc f a w e).set 117 (some (false, 11, [am_iv (f 11700), am_iv (f 11701), am_iv (f 11702), am_iv (f 11703), am_iv (f 11704), .ref 118, .ref 119, am_iv (f 11707), .ref 120, am_iv (f 11709), .ref 121, .ref 122, .ref 123, am_iv v, .ref 124, .ref 125, .ref 126, .ref 127, am_iv (f 11718), .ref 128, .ref 129, .ref 130, .ref 131, am_iv (f 11723), am_iv (f 11724), .ref 132, .ref 133, .ref 134, .ref 135, .ref 136, .ref 137, .ref 138, .ref 139, .ref 140, .ref 141, .ref 142, .ref 143, .ref 144, am_iv (f 11738), am_iv (f 11739), am_iv (f 11740), am_iv (f 11741), .ref 145, .ref 146, .ref 147, .ref 148, .ref 149, .ref 150, .ref 151, .ref 152, am_iv (f 11750), .ref 153, .ref 154, am_iv (f 11753), .ref 155, am_iv (f 11755), .ref 156, am_iv (f 11757), .ref 157, .ref 158, .ref 159, .ref 160, .ref 161, am_iv (f 11763), .ref 162])) = am_enc (am_ud f 11713 v) a w e := rfl
set_option maxRecDepth 100000 in
theorem am_sf11718 (v : Int) : (am_enc f a w e).set 117 (some (false, 11, [am_iv (f 11700), am_iv (f 11701), am_iv (f 11702), am_iv (f 11703), am_iv (f 11704), .ref 118, .ref 119, am_iv (f 11707), .ref 120, am_iv (f 11709), .ref 121, .ref 122, .ref 123, am_iv (f 11713), .ref 124, .ref 125, .ref 126, .ref 127, am_iv v, .ref 128, .ref 129, .ref 130, .ref 131, am_iv (f 11723), am_iv (f 11724), .ref 132, .ref 133, .ref 134, .ref 135, .ref 136, .ref 137, .ref 138, .ref 139, .ref 140, .ref 141, .ref 142, .ref 143, .ref 144, am_iv (f 11738), am_iv (f 11739), am_iv (f 11740), am_iv (f 11741), .ref 145, .ref 146, .ref 147, .ref 148, .ref 149, .ref 150, .ref 151, .ref 152, am_iv (f 11750), .ref 153, .ref 154, am_iv (f 11753), .ref 155, am_iv (f 11755), .ref 156, am_iv (f 11757), .ref 157, .ref 158, .ref 159, .ref 160, .ref 161, am_iv (f 11763), .ref 162])) = am_enc (am_ud f 11718 v) a w e := rfl
set_option maxRecDepth 100000 in
theorem am_sf11723 (v : Int) : (am_enc f a w e).set 117 (some (false, 11, [am_iv (f 11700), am_iv (f 11701), am_iv (f 11702), am_iv (f 11703), am_iv (f 11704), .ref 118, .ref 119, am_iv (f 11707), .ref 120, am_iv (f 11709), .ref 121, .ref 122, .ref 123, am_iv (f 11713), .ref 124, .ref 125, .ref 126, .ref 127, am_iv (f 11718), .ref 128, .ref 129, .ref 130, .ref 131, am_iv v, am_iv (f 11724), .ref 132, .ref 133, .ref 134, .ref 135, .ref 136, .ref 137, .ref 138, .ref 139, .ref 140, .ref 141, .ref 142, .ref 143, .ref 144, am_iv (f 11738), am_iv (f 11739), am_iv (f 11740), am_iv (f 11741), .ref 145, .ref 146, .ref 147, .ref 148, .ref 149, .ref 150, .ref 151, .ref 152, am_iv (f 11750), .ref 153, .ref 154, am_iv (f 11753), .ref 155, am_iv (f 11755), .ref 156, am_iv (f 11757), .ref 157, .ref 158, .ref 159, .ref 160, .ref 161, am_iv (f 11763), .ref 162])) = am_enc (am_ud f 11723 v) a w e := rfl
set_option maxRecDepth 100000 in
theorem am_sf11724 (v : Int) : (am_enc f a w e).set 117 (some (false, 11, [am_iv (f 11700), am_iv (f 11701), am_iv (f 11702), am_iv (f 11703), am_iv (f 11704), .ref 118, .ref 119, am_iv (f 11707), .ref 120, am_iv (f 11709), .ref 121, .ref 122, .ref 123, am_iv (f 11713), .ref 124, .ref 125, .ref 126, .ref 127, am_iv (f 11718), .ref 128, .ref 129, .ref 130, .ref 131, am_iv (f 11723), am_iv v, .ref 132, .ref 133, .ref 134, .ref 135, .ref 136, .ref 137, .ref 138, .ref 139, .ref 140, .ref 141, .ref 142, .ref 143, .ref 144, am_iv (f 11738), am_iv (f 11739), am_iv (f 11740), am_iv (f 11741), .ref 145, .ref 146, .ref 147, .ref 148, .ref 149, .ref 150, .ref 151, .ref 152, am_iv (f 11750), .ref 153, .ref 154, am_iv (f 11753), .ref 155, am_iv (f 11755), .ref 156, am_iv (f 11757), .ref 157, .ref 158, .ref 159, .ref 160, .ref 161, am_iv (f 11763), .ref 162])) = am_enc (am_ud f 11724 v) a w e := rfl
set_option maxRecDepth 100000 in
theorem am_sf11738 (v : Int) : (am_enc f a w e).set 117 (some (false, 11, [am_iv (f 11700), am_iv (f 11701), am_iv (f 11702), am_iv (f 11703), am_iv (f 11704), .ref 118, .ref 119, am_iv (f 11707), .ref 120, am_iv (f 11709), .ref 121, .ref 122, .ref 123, am_iv (f 11713), .ref 124, .ref 125, .ref 126, .ref 127, am_iv (f 11718), .ref 128, .ref 129, .ref 130, .ref 131, am_iv (f 11723), am_iv (f 11724), .ref 132, .ref 133, .ref 134, .ref 135, .ref 136, .ref 137, .ref 138, .ref 139, .ref 140, .ref 141, .ref 142, .ref 143, .ref 144, am_iv v, am_iv (f 11739), am_iv (f 11740), am_iv (f 11741), .ref 145, .ref 146, .ref 147, .ref 148, .ref 149, .ref 150, .ref 151, .ref 152, am_iv (f 11750), .ref 153, .ref 154, am_iv (f 11753), .ref 155, am_iv (f 11755), .ref 156, am_iv (f 11757), .ref 157, .ref 158, .ref 159, .ref 160, .ref 161, am_iv (f 11763), .ref 162])) = am_enc (am_ud f 11738 v) a w e := rfl
set_option maxRecDepth 100000 in
theorem am_sf11739 (v : Int) : (am_enc f a w e).set 117 (some (false, 11, [am_iv (f 11700), am_iv (f 11701), am_iv (f 11702), am_iv (f 11703), am_iv (f 11704), .ref 118, .ref 119, am_iv (f 11707), .ref 120, am_iv (f 11709), .ref 121, .ref 122, .ref 123, am_iv (f 11713), .ref 124, .ref 125, .ref 126, .ref 127, am_iv (f 11718), .ref 128, .ref 129, .ref 130, .ref 131, am_iv (f 11723), am_iv (f 11724), .ref 132, .ref 133, .ref 134, .ref 135, .ref 136, .ref 137, .ref 138, .ref 139, .ref 140, .ref 141, .ref 142, .ref 143, .ref 144, am_iv (f 11738), am_iv v, am_iv (f 11740), am_iv (f 11741), .ref 145, .ref 146, .ref 147, .ref 148, .ref 149, .ref 150, .ref 151, .ref 152, am_iv (f 11750), .ref 153, .ref 154, am_iv (f 11753), .ref 155, am_iv (f 11755), .ref 156, am_iv (f 11757), .ref 157, .ref 158, .ref 159, .ref 160, .ref 161, am_iv (f 11763), .ref 162])) = am_enc (am_ud f 11739 v) a w e := rfl
set_option maxRecDepth 100000 in
theorem am_sf11740 (v : Int) : (am_enc f a w e).set 117 (some (false, 11, [am_iv (f 11700), am_iv (f 11701), am_iv (f 11702), am_iv (f 11703), am_iv (f 11704), .ref 118, .ref 119, am_iv (f 11707), .ref 120, am_iv (f 11709), .ref 121, .ref 122, .ref 123, am_iv (f 11713), .ref 124, .ref 125, .ref 126, .ref 127, am_iv (f 11718), .ref 128, .ref 129, .ref 130, .ref 131, am_iv (f 11723), am_iv (f 11724), .ref 132, .ref 133, .ref 134, .ref 135, .ref 136, .ref 137, .ref 138, .ref 139, .ref 140, .ref 141, .ref 142, .ref 143, .ref 144, am_iv (f 11738), am_iv (f 11739), am_iv v, am_iv (f 11741), .ref 145, .ref 146, .ref 147, .ref 148, .ref 149, .ref 150, .ref 151, .ref 152, am_iv (f 11750), .ref 153, .ref 154, am_iv (f 11753), .ref 155, am_iv (f 11755), .ref 156, am_iv (f 11757), .ref 157, .ref 158, .ref 159, .ref 160, .ref 161, am_iv (f 11763), .ref 162])) = am_enc (am_ud f 11740 v) a w e := rfl
set_option maxRecDepth 100000 in
theorem am_sf11741 (v : Int) : (am_enc f a w e).set 117 (some (false, 11, [am_iv (f 11700), am_iv (f 11701), am_iv (f 11702), am_iv (f 11703), am_iv (f 11704), .ref 118, .ref 119, am_iv (f 11707), .ref 120, am_iv (f 11709), .ref 121, .ref 122, .ref 123, am_iv (f 11713), .ref 124, .ref 125, .ref 126, .ref 127, am_iv (f 11718), .ref 128, .ref 129, .ref 130, .ref 131, am_iv (f 11723), am_iv (f 11724), .ref 132, .ref 133, .ref 134, .ref 135, .ref 136, .ref 137, .ref 138, .ref 139, .ref 140, .ref 141, .ref 142, .ref 143, .ref 144, am_iv (f 11738), am_iv (f 11739), am_iv (f 11740), am_iv v, .ref 145, .ref 146, .ref 147, .ref 148, .ref 149, .ref 150, .ref 151, .ref 152, am_iv (f 11750), .ref 153, .ref 154, am_iv (f 11753), .ref 155, am_iv (f 11755), .ref 156, am_iv (f 11757), .ref 157, .ref 158, .ref 159, .ref 160, .ref 161, am_iv (f 11763), .ref 162])) = am_enc (am_ud f 11741 v) a w e := rfl
set_option maxRecDepth 100000 in
theorem am_sf11750 (v : Int) : (am_enc f a w e).set 117 (some (false, 11, [am_iv (f 11700), am_iv (f 11701), am_iv (f 11702), am_iv (f 11703), am_iv (f 11704), .ref 118, .ref 119, am_iv (f 11707), .ref 120, am_iv (f 11709), .ref 121, .ref 122, .ref 123, am_iv (f 11713), .ref 124, .ref 125, .ref 126, .ref 127, am_iv (f 11718), .ref 128, .ref 129, .ref 130, .ref 131, am_iv (f 11723), am_iv (f 11724), .ref 132, .ref 133, .ref 134, .ref 135, .ref 136, .ref 137, .ref 138, .ref 139, .ref 140, .ref 141, .ref 142, .ref 143, .ref 144, am_iv (f 11738), am_iv (f 11739), am_iv (f 11740), am_iv (f 11741), .ref 145, .ref 146, .ref 147, .ref 148, .ref 149, .ref 150, .ref 151, .ref 152, am_iv v, .ref 153, .ref 154, am_iv (f 11753), .ref 155, am_iv (f 11755), .ref 156, am_iv (f 11757), .ref 157, .ref 158, .ref 159, .ref 160, .ref 161, am_iv (f 11763), .ref 162])) = am_enc (am_ud f 11750 v) a w e := rfl
set_option maxRecDepth 100000 in
theorem am_sf11753 (v : Int) : (am_enc f a w e).set 117 (some (false, 11, [am_iv (f 11700), am_iv (f 11701), am_iv (f 11702), am_iv (f 11703), am_iv (f 11704), .ref 118, .ref 119, am_iv (f 11707), .ref 120, am_iv (f 11709), .ref 121, .ref 122, .ref 123, am_iv (f 11713), .ref 124, .ref 125, .ref 126, .ref 127, am_iv (f 11718), .ref 128, .ref 129, .ref 130, .ref 131, am_iv (f 11723), am_iv (f 11724), .ref 132, .ref 133, .ref 134, .ref 135, .ref 136, .ref 137, .ref 138, .ref 139, .ref 140, .ref 141, .ref 142, .ref 143, .ref 144, am_iv (f 11738), am_iv (f 11739), am_iv (f 11740), am_iv (f 11741), .ref 145, .ref 146, .ref 147, .ref 148, .ref 149, .ref 150, .ref 151, .ref 152, am_iv (f 11750), .ref 153, .ref 154, am_iv v, .ref 155, am_iv (f 11755), .ref 156, am_iv (f 11757), .ref 157, .ref 158, .ref 159, .ref 160, .ref 161, am_iv (f 11763), .ref 162])) = am_enc (am_ud f 11753 v) a w e := rfl
set_option maxRecDepth 100000 in
theorem am_sf11755 (v : Int) : (am_enc f a w e).set 117 (some (false, 11, [am_iv (f 11700), am_iv (f 11701), am_iv (f 11702), am_iv (f 11703), am_iv (f 11704), .ref 118, .ref 119, am_iv (f 11707), .ref 120, am_iv (f 11709), .ref 121, .ref 122, .ref 123, am_iv (f 11713), .ref 124, .ref 125, .ref 126, .ref 127, am_iv (f 11718), .ref 128, .ref 129, .ref 130, .ref 131, am_iv (f 11723), am_iv (f 11724), .ref 132, .ref 133, .ref 134, .ref 135, .ref 136, .ref 137, .ref 138, .ref 139, .ref 140, .ref 141, .ref 142, .ref 143, .ref 144, am_iv (f 11738), am_iv (f 11739), am_iv (f 11740), am_iv (f 11741), .ref 145, .ref 146, .ref 147, .ref 148, .ref 149, .ref 150, .ref 151, .ref 152, am_iv (f 11750), .ref 153, .ref 154, am_iv (f 11753), .ref 155, am_iv v, .ref 156, am_iv (f 11757), .ref 157, .ref 158, .ref 159, .ref 160, .ref 161, am_iv (f 11763), .ref 162])) = am_enc (am_ud f 11755 v) a w e := rfl
set_option maxRecDepth 100000 in
theorem am_sf11757 (v : Int) : (am_enc f a w e).set 117 (some (false, 11, [am_iv (f 11700), am_iv (f 11701), am_iv (f 11702), am_iv (f 11703), am_iv (f 11704), .ref 118, .ref 119, am_iv (f 11707), .ref 120, am_iv (f 11709), .ref 121, .ref 122, .ref 123, am_iv (f 11713), .ref 124, .ref 125, .ref 126, .ref 127, am_iv (f 11718), .ref 128, .ref 129, .ref 130, .ref 131, am_iv (f 11723), am_iv (f 11724), .ref 132, .ref 133, .ref 134, .ref 135, .ref 136, .ref 137, .ref 138, .ref 139, .ref 140, .ref 141, .ref 142, .ref 143, .ref 144, am_iv (f 11738), am_iv (f 11739), am_iv (f 11740), am_iv (f 11741), .ref 145, .ref 146, .ref 147, .ref 148, .ref 149, .ref 150, .ref 151, .ref 152, am_iv (f 11750), .ref 153, .ref 154, am_iv (f 11753), .ref 155, am_iv (f 11755), .ref 156, am_iv v, .ref 157, .ref 158, .ref 159, .ref 160, .ref 161, am_iv (f 11763), .ref 162])) = am_enc (am_ud f 11757 v) a w e := rfl
set_option maxRecDepth 100000 in
theorem am_sf11763 (v : Int) : (am_enc f a w e).set 117 (some (false, 11, [am_iv (f 11700), am_iv (f 11701), am_iv (f 11702), am_iv (f 11703), am_iv (f 11704), .ref 118, .ref 119, am_iv (f 11707), .ref 120, am_iv (f 11709), .ref 121, .ref 122, .ref 123, am_iv (f 11713), .ref 124, .ref 125, .ref 126, .ref 127, am_iv (f 11718), .ref 128, .ref 129, .ref 130, .ref 131, am_iv (f 11723), am_iv (f 11724), .ref 132, .ref 133, .ref 134, .ref 135, .ref 136, .ref 137, .ref 138, .ref 139, .ref 140, .ref 141, .ref 142, .ref 143, .ref 144, am_iv (f 11738), am_iv (f 11739), am_iv (f 11740), am_iv (f 11741), .ref 145, .ref 146, .ref 147, .ref 148, .ref 149, .ref 150, .ref 151, .ref 152, am_iv (f 11750), .ref 153, .ref 154, am_iv (f 11753), .ref 155, am_iv (f 11755), .ref 156, am_iv (f 11757), .ref 157, .ref 158, .ref 159, .ref 160, .ref 161, am_iv v, .ref 162])) = am_enc (am_ud f 11763 v) a w e := rfl
theorem am_ge118 : am_get (am_enc f a w e) 118 = some (true, 0, (a 118).map am_iv) := rfl
set_option maxRecDepth 100000 in
theorem am_sa118 (l : List Int) : (am_enc f a w e).set 118 (some (true, 0, l.map am_iv)) = am_enc f (am_ud a 118 l) w e := rfl
theorem am_ge119 : am_get (am_enc f a w e) 119 = some (true, 0, (a 119).map am_iv) := rfl
set_option maxRecDepth 100000 in
theorem am_sa119 (l : List Int) : (am_enc f a w e).set 119 (some (true, 0, l.map am_iv)) = am_enc f (am_ud a 119 l) w e := rfl
theorem am_ge120 : am_get (am_enc f a w e) 120 = some (true, 0, (a 120).map am_iv) := rfl
set_option maxRecDepth 100000 in
theorem am_sa120 (l : List Int) : (am_enc f a w e).set 120 (some (true, 0, l.map am_iv)) = am_enc f (am_ud a 120 l) w e := rfl
theorem am_ge121 : am_get (am_enc f a w e) 121 = some (true, 0, (a 121).map am_iv) := rfl
set_option maxRecDepth 100000 in
theorem am_sa121 (l : List Int) : (am_enc f a w e).set 121 (some (true, 0, l.map am_iv)) = am_enc f (am_ud a 121 l) w e := rfl
theorem am_ge122 : am_get (am_enc f a w e) 122 = some (true, 0, (a 122).map am_iv) := rfl
set_option maxRecDepth 100000 in
theorem am_sa122 (l : List Int) : (am_enc f a w e).set 122 (some (true, 0, l.map am_iv)) = am_enc f (am_ud a 122 l) w e := rfl
theorem am_ge123 : am_get (am_enc f a w e) 123 = some (true, 1, (a 123).map am_iv) := rfl
set_option maxRecDepth 100000 in
theorem am_sa123 (l : List Int) : (am_enc f a w e).set 123 (some (true, 1, l.map am_iv)) = am_enc f (am_ud a 123 l) w e := rfl
theorem am_ge124 : am_get (am_enc f a w e) 124 = some (true, 0, (a 124).map am_iv) := rfl
set_option maxRecDepth 100000 in
theorem am_sa124 (l : List Int) : (am_enc f a w e).set 124 (some (true, 0, l.map am_iv)) = am_enc f (am_ud a 124 l) w e := rfl
theorem am_ge125 : am_get (am_enc f a w e) 125 = some (true, 0, (a 125).map am_iv) := rfl
set_option maxRecDepth 100000 in
theorem am_sa125 (l : List Int) : (am_enc f a w e).set 125 (some (true, 0, l.map am_iv)) = am_enc f (am_ud a 125 l) w e := rfl
theorem am_ge126 : am_get (am_enc f a w e) 126 = some (true, 0, (a 126).map am_iv) := rfl
set_option maxRecDepth 100000 in
theorem am_sa126 (l : List Int) : (am_enc f a w e).set 126 (some (true, 0, l.map am_iv)) = am_enc f (am_ud a 126 l) w e := rfl
theorem am_ge127 : am_get (am_enc f a w e) 127 = some (true, 0, (a 127).map am_iv) := rfl
set_option maxRecDepth 100000 in
theorem am_sa127 (l : List Int) : (am_enc f a w e).set 127 (some (true, 0, l.map am_iv)) = am_enc f (am_ud a 127 l) w e := rfl
theorem am_ge128 : am_get (am_enc f a w e) 128 = some (true, 0, (a 128).map am_iv) := rfl
set_option maxRecDepth 100000 in
theorem am_sa128 (l : List Int) : (am_enc f a w e).set 128 (some (true, 0, l.map am_iv)) = am_enc f (am_ud a 128 l) w e := rfl
theorem am_ge129 : am_get (am_enc f a w e) 129 = some (true, 0, (a 129).map am_iv) := rfl
set_option maxRecDepth 100000 in
theorem am_sa129 (l : List Int) : (am_enc f a w e).set 129 (some (true, 0, l.map am_iv)) = am_enc f (am_ud a 129 l) w e := rfl
theorem am_ge130 : am_get (am_enc f a w e) 130 = some (true, 0, (a 130).map am_iv) := rfl
set_option maxRecDepth 100000 in
theorem am_sa130 (l : List Int) : (am_enc f a w e).set 130 (some (true, 0, l.map am_iv)) = am_enc f (am_ud a 130 l) w e := rfl
theorem am_ge131 : am_get (am_enc f a w e) 131 = some (true, 1, (a 131).map am_iv) := rfl
set_option maxRecDepth 100000 in
theorem am_sa131 (l : List Int) : (am_enc f a w e).set 131 (some (true, 1, l.map am_iv)) = am_enc f (am_ud a 131 l) w e := rfl
theorem am_ge132 : am_get (am_enc f a w e) 132 = some (true, 0, (a 132).map am_iv) := rfl
set_option maxRecDepth 100000 in
theorem am_sa132 (l : List Int) : (am_enc f a w e).set 132 (some (true, 0, l.map am_iv)) = am_enc f (am_ud a 132 l) w e := rfl
theorem am_ge133 : am_get (am_enc f a w e) 133 = some (true, 0, (a 133).map am_iv) := rfl
set_option maxRecDepth 100000 in
theorem am_sa133 (l : List Int) : (am_enc f a w e).set 133 (some (true, 0, l.map am_iv)) = am_enc f (am_ud a 133 l) w e := rfl
theorem am_ge134 : am_get (am_enc f a w e) 134 = some (true, 0, (a 134).map am_iv) := rfl
set_option maxRecDepth 100000 in
theorem am_sa134 (l : List Int) : (am_enc f a w e).set 134 (some (true, 0, l.map am_iv)) = am_enc f (am_ud a 134 l) w e := rfl
theorem am_ge135 : am_get (am_enc f a w e) 135 = some (true, 0, (a 135).map am_iv) := rfl
set_option maxRecDepth 100000 in
theorem am_sa135 (l : List Int) : (am_enc f a w e).set 135 (some (true, 0, l.map am_iv)) = am_enc f (am_ud a 135 l) w e := rfl
theorem am_ge136 : am_get (am_enc f a w e) 136 = some (true, 0, (a 136).map am_iv) := rfl
set_option maxRecDepth 100000 in
theorem am_sa136 (l : List Int) : (am_enc f a w e).set 136 (some (true, 0, l.map am_iv)) = am_enc f (am_ud a 136 l) w e := rfl
theorem am_ge137 : am_get (am_enc f a w e) 137 = some (true, 0, (a 137).map am_iv) := rfl
set_option maxRecDepth 100000 in
theorem am_sa137 (l : List Int) : (am_enc f a w e).set 137 (some (true, 0, l.map am_iv)) = am_enc f (am_ud a 137 l) w e := rfl
theorem am_ge138 : am_get (am_enc f a w e) 138 = some (true, 0, (a 138).map am_iv) := rfl
set_option maxRecDepth 100000 in
theorem am_sa138 (l : List Int) : (am_enc f a w e).set 138 (some (true, 0, l.map am_iv)) = am_enc f (am_ud a 138 l) w e := rfl
theorem am_ge139 : am_get (am_enc f a w e) 139 = some (true, 1, (a 139).map am_iv) := rfl
set_option maxRecDepth 100000 in
theorem am_sa139 (l : List Int) : (am_enc f a w e).set 139 (some (true, 1, l.map am_iv)) = am_enc f (am_ud a 139 l) w e := rfl
theorem am_ge140 : am_get (am_enc f a w e) 140 = some (true, 0, (a 140).map am_iv) := rfl
set_option maxRecDepth 100000 in
theorem am_sa140 (l : List Int) : (am_enc f a w e).set 140 (some (true, 0, l.map am_iv)) = am_enc f (am_ud a 140 l) w e := rfl
theorem am_ge141 : am_get (am_enc f a w e) 141 = some (true, 0, (a 141).map am_iv) := rfl
set_option maxRecDepth 100000 in
theorem am_sa141 (l : List Int) : (am_enc f a w e).set 141 (some (true, 0, l.map am_iv)) = am_enc f (am_ud a 141 l) w e := rfl
theorem am_ge142 : am_get (am_enc f a w e) 142 = some (true, 0, (a 142).map am_iv) := rfl
set_option maxRecDepth 100000 in
theorem am_sa142 (l : List Int) : (am_enc f a w e).set 142 (some (true, 0, l.map am_iv)) = am_enc f (am_ud a 142 l) w e := rfl
theorem am_ge143 : am_get (am_enc f a w e) 143 = some (true, 1, (a 143).map am_iv) := rfl
set_option maxRecDepth 100000 in
theorem am_sa143 (l : List Int) : (am_enc f a w e).set 143 (some (true, 1, l.map am_iv)) = am_enc f (am_ud a 143 l) w e := rfl
theorem am_ge144 : am_get (am_enc f a w e) 144 = some (true, 1, (a 144).map am_iv) := rfl
set_option maxRecDepth 100000 in
theorem am_sa144 (l : List Int) : (am_enc f a w e).set 144 (some (true, 1, l.map am_iv)) = am_enc f (am_ud a 144 l) w e := rfl
theorem am_ge145 : am_get (am_enc f a w e) 145 = some (true, 0, (a 145).map am_iv) := rfl
set_option maxRecDepth 100000 in
theorem am_sa145 (l : List Int) : (am_enc f a w e).set 145 (some (true, 0, l.map am_iv)) = am_enc f (am_ud a 145 l) w e := rfl
theorem am_ge146 : am_get (am_enc f a w e) 146 = some (true, 0, (a 146).map am_iv) := rfl
set_option maxRecDepth 100000 in
theorem am_sa146 (l : List Int) : (am_enc f a w e).set 146 (some (true, 0, l.map am_iv)) = am_enc f (am_ud a 146 l) w e := rfl
theorem am_ge147 : am_get (am_enc f a w e) 147 = some (true, 0, (a 147).map am_iv) := rfl
set_option maxRecDepth 100000 in
theorem am_sa147 (l : List Int) : (am_enc f a w e).set 147 (some (true, 0, l.map am_iv)) = am_enc f (am_ud a 147 l) w e := rfl
theorem am_ge148 : am_get (am_enc f a w e) 148 = some (true, 0, (a 148).map am_iv) := rfl
set_option maxRecDepth 100000 in
theorem am_sa148 (l : List Int) : (am_enc f a w e).set 148 (some (true, 0, l.map am_iv)) = am_enc f (am_ud a 148 l) w e := rfl
theorem am_ge149 : am_get (am_enc f a w e) 149 = some (true, 0, (a 149).map am_iv) := rfl
set_option maxRecDepth 100000 in
theorem am_sa149 (l : List Int) : (am_enc f a w e).set 149 (some (true, 0, l.map am_iv)) = am_enc f (am_ud a 149 l) w e := rfl
theorem am_ge150 : am_get (am_enc f a w e) 150 = some (true, 0, (a 150).map am_iv) := rfl
set_option maxRecDepth 100000 in
theorem am_sa150 (l : List Int) : (am_enc f a w e).set 150 (some (true, 0, l.map am_iv)) = am_enc f (am_ud a 150 l) w e := rfl
theorem am_ge151 : am_get (am_enc f a w e) 151 = some (true, 0, (a 151).map am_iv) := rfl
set_option maxRecDepth 100000 in
theorem am_sa151 (l : List Int) : (am_enc f a w e).set 151 (some (true, 0, l.map am_iv)) = am_enc f (am_ud a 151 l) w e := rfl
theorem am_ge152 : am_get (am_enc f a w e) 152 = some (true, 0, (a 152).map am_iv) := rfl
set_option maxRecDepth 100000 in
theorem am_sa152 (l : List Int) : (am_enc f a w e).set 152 (some (true, 0, l.map am_iv)) = am_enc f (am_ud a 152 l) w e := rfl
theorem am_ge153 : am_get (am_enc f a w e) 153 = some (true, 0, (a 153).map am_iv) := rfl
set_option maxRecDepth 100000 in
theorem am_sa153 (l : List Int) : (am_enc f a w e).set 153 (some (true, 0, l.map am_iv)) = am_enc f (am_ud a 153 l) w e := rfl
theorem am_ge154 : am_get (am_enc f a w e) 154 = some (true, 0, (a 154).map am_iv) := rfl
set_option maxRecDepth 100000 in
theorem am_sa154 (l : List Int) : (am_enc f a w e).set 154 (some (true, 0, l.map am_iv)) = am_enc f (am_ud a 154 l) w e := rfl
theorem am_ge155 : am_get (am_enc f a w e) 155 = some (true, 0, (a 155).map am_iv) := rfl
set_option maxRecDepth 100000 in
theorem am_sa155 (l : List Int) : (am_enc f a w e).set 155 (some (true, 0, l.map am_iv)) = am_enc f (am_ud a 155 l) w e := rfl
theorem am_ge156 : am_get (am_enc f a w e) 156 = some (true, 0, (a 156).map am_iv) := rfl
set_option maxRecDepth 100000 in
theorem am_sa156 (l : List Int) : (am_enc f a w e).set 156 (some (true, 0, l.map am_iv)) = am_enc f (am_ud a 156 l) w e := rfl
theorem am_ge157 : am_get (am_enc f a w e) 157 = some (true, 0, (a 157).map am_iv) := rfl
set_option maxRecDepth 100000 in
theorem am_sa157 (l : List Int) : (am_enc f a w e).set 157 (some (true, 0, l.map am_iv)) = am_enc f (am_ud a 157 l) w e := rfl
theorem am_ge158 : am_get (am_enc f a w e) 158 = some (true, 0, (a 158).map am_iv) := rfl
set_option maxRecDepth 100000 in
theorem am_sa158 (l : List Int) : (am_enc f a w e).set 158 (some (true, 0, l.map am_iv)) = am_enc f (am_ud a 158 l) w e := rfl
theorem am_ge159 : am_get (am_enc f a w e) 159 = some (true, 0, (a 159).map am_iv) := rfl
set_option maxRecDepth 100000 in
theorem am_sa159 (l : List Int) : (am_enc f a w e).set 159 (some (true, 0, l.map am_iv)) = am_enc f (am_ud a 159 l) w e := rfl
theorem am_ge160 : am_get (am_enc f a w e) 160 = some (true, 0, (a 160).map am_iv) := rfl
set_option maxRecDepth 100000 in
theorem am_sa160 (l : List Int) : (am_enc f a w e).set 160 (some (true, 0, l.map am_iv)) = am_enc f (am_ud a 160 l) w e := rfl
theorem am_ge161 : am_get (am_enc f a w e) 161 = some (true, 0, (a 161).map am_iv) := rfl
set_option maxRecDepth 100000 in
theorem am_sa161 (l : List Int) : (am_enc f a w e).set 161 (some (true, 0, l.map am_iv)) = am_enc f (am_ud a 161 l) w e := rfl
theorem am_ge162 : am_get (am_enc f a w e) 162 = some (true, 0, (a 162).map am_iv) := rfl
set_option maxRecDepth 100000 in
theorem am_sa162 (l : List Int) : (am_enc f a w e).set 162 (some (true, 0, l.map am_iv)) = am_enc f (am_ud a 162 l) w e := rfl
theorem am_ge163 : am_get (am_enc f a w e) 163 = some (true, 2, [w]) := rfl
end AmEnc
end
section
/-! RUNS OVER THE HEAP OF THE LAW'S LOOP -/
abbrev aF := Nat → Int
abbrev aA := Nat → List Int
/-- from here the run ends: it returns with Q of what it returns and of the ints and arrays then, or throws with E -/
abbrev am_TE (X : List Value) (d : Nat) (r : aM) (pc : Nat) (L : aL) (S : List Value) (f : aF) (a : aA) (w : Value) (e : Nat) (Q : Option Value → aF → aA → Prop) (E : Nat → aF → aA → Prop) : Prop :=
  am_T X d r pc L S (am_enc f a w e) (fun v h' => ∃ f' a', h' = am_enc f' a' w e ∧ Q v f' a') (fun x h' => ∃ f' a', h' = am_enc f' a' w (e + 1) ∧ E x f' a')
def am_QI (P : Int → aF → aA → Prop) : Option Value → aF → aA → Prop := fun v f a => ∃ b : Int, v = some (am_iv b) ∧ P b f a
def am_QV (P : aF → aA → Prop) : Option Value → aF → aA → Prop := fun v f a => v = none ∧ P f a
def am_QR (P : Nat → aF → aA → Prop) : Option Value → aF → aA → Prop := fun v f a => ∃ b : Nat, v = some (.ref b) ∧ P b f a
section AmTE
variable {X : List Value} {d : Nat} {r : aM} {pc : Nat} {L : aL} {S S1 : List Value} {f : aF} {a : aA} {w : Value} {e : Nat} {Q : Option Value → aF → aA → Prop} {E : Nat → aF → aA → Prop} {v : Value} {k c : Nat} {x y : Int} {idx : Nat}
theorem am_TE.mono {Q' : Option Value → aF → aA → Prop} {E' : Nat → aF → aA → Prop} (ht : am_TE X d r pc L S f a w e Q E) (hQ : ∀ v f a, Q v f a → Q' v f a) (hE : ∀ x f a, E x f a → E' x f a) : am_TE X d r pc L S f a w e Q' E' :=
  am_T.mono ht (fun v h ⟨f', a', h1, h2⟩ => ⟨f', a', h1, hQ _ _ _ h2⟩) (fun x h ⟨f', a', h1, h2⟩ => ⟨f', a', h1, hE _ _ _ h2⟩)
theorem am_TE.int {P P' : Int → aF → aA → Prop} {E' : Nat → aF → aA → Prop} (ht : am_TE X d r pc L S f a w e (am_QI P) E) (hQ : ∀ b f a, P b f a → P' b f a) (hE : ∀ x f a, E x f a → E' x f a) : am_TE X d r pc L S f a w e (am_QI P') E' :=
  ht.mono (fun v f a ⟨b, h1, h2⟩ => ⟨b, h1, hQ _ _ _ h2⟩) hE
theorem am_TE.void {P P' : aF → aA → Prop} {E' : Nat → aF → aA → Prop} (ht : am_TE X d r pc L S f a w e (am_QV P) E) (hQ : ∀ f a, P f a → P' f a) (hE : ∀ x f a, E x f a → E' x f a) : am_TE X d r pc L S f a w e (am_QV P') E' :=
  ht.mono (fun v f a ⟨h1, h2⟩ => ⟨h1, hQ _ _ h2⟩) hE
theorem am_TE.refr {P P' : Nat → aF → aA → Prop} {E' : Nat → aF → aA → Prop} (ht : am_TE X d r pc L S f a w e (am_QR P) E) (hQ : ∀ b f a, P b f a → P' b f a) (hE : ∀ x f a, E x f a → E' x f a) : am_TE X d r pc L S f a w e (am_QR P') E' :=
  ht.mono (fun v f a ⟨b, h1, h2⟩ => ⟨b, h1, hQ _ _ _ h2⟩) hE
theorem am_eret (hq : am_look r.2.2.2.2.2.2.2 pc = some (.return_, 1)) (hr : am_rv r.2.2.2.1 [] = true) {P : aF → aA → Prop} (hQ : P f a) : am_TE X d r pc L [] f a w e (am_QV P) E := am_rret hq hr ⟨f, a, rfl, rfl, hQ⟩
theorem am_eiret (hq : am_look r.2.2.2.2.2.2.2 pc = some (.ireturn, 1)) (hr : r.2.2.2.1 = some .int) {P : Int → aF → aA → Prop} (hQ : P x f a) : am_TE X d r pc L [am_iv x] f a w e (am_QI P) E := am_riret hq (by rw [hr]; rfl) ⟨f, a, rfl, x, rfl, hQ⟩
theorem am_ebret (hq : am_look r.2.2.2.2.2.2.2 pc = some (.ireturn, 1)) (hr : r.2.2.2.1 = some .boolean) (hx : x = 0 ∨ x = 1) {P : Int → aF → aA → Prop} (hQ : P x f a) : am_TE X d r pc L [am_iv x] f a w e (am_QI P) E := am_riret hq (by rw [hr]; rcases hx with rfl | rfl <;> rfl) ⟨f, a, rfl, x, rfl, hQ⟩
theorem am_earet {s : String} (hq : am_look r.2.2.2.2.2.2.2 pc = some (.areturn, 1)) (hr : r.2.2.2.1 = some (.object s)) {P : Nat → aF → aA → Prop} (hQ : P k f a) : am_TE X d r pc L [.ref k] f a w e (am_QR P) E := am_raret hq (by rw [hr]; rfl) ⟨f, a, rfl, k, rfl, hQ⟩
theorem am_ethrow {ik c : Nat} (hq : am_look r.2.2.2.2.2.2.2 pc = some (.new ik, 3)) (hn : am_look2 am_nw r.2.2.2.2.1 ik = none) (ht : am_thr r ik pc = some c) (hs : Nat.ble (am_sum S) 8 = true) (hE : E c f a) : am_TE X d r pc L S f a w e Q E := am_rthrow hq hn ht hs ⟨f, a, am_enc_none, hE⟩
/-- a method without handlers calls -/
theorem am_ecall {As : List Value} {m : aM} {Q1 : Option Value → aF → aA → Prop} (hh : r.2.2.2.2.2.1 = [])
    (k : am_T X d m 0 (lv_args 0 As) [] (am_enc f a w e) (fun v h' => am_T X (d + 1) r (pc + 3) L (v.toList ++ S1) h' (fun v h' => ∃ f' a', h' = am_enc f' a' w e ∧ Q v f' a') (fun x h' => ∃ f' a', h' = am_enc f' a' w (e + 1) ∧ E x f' a')) (am_Th X (d + 1) r pc L (fun v h' => ∃ f' a', h' = am_enc f' a' w e ∧ Q v f' a') (fun x h' => ∃ f' a', h' = am_enc f' a' w (e + 1) ∧ E x f' a')) → am_TE X (d + 1) r pc L S f a w e Q E)
    (ht : am_TE X d m 0 (lv_args 0 As) [] f a w e Q1 E) (hk : ∀ v f' a', Q1 v f' a' → am_TE X (d + 1) r (pc + 3) L (v.toList ++ S1) f' a' w e Q E) : am_TE X (d + 1) r pc L S f a w e Q E := by
  refine k (am_T.mono ht (fun v h ⟨f', a', h1, h2⟩ => ?_) (fun x h h9 => ?_))
  · rw [h1]; exact hk v f' a' h2
  · unfold am_Th
    rw [hh]
    exact h9
theorem am_estaticI {n : Nat} {m : aM} {As : List Value} (hq : am_look r.2.2.2.2.2.2.2 pc = some (.invokestatic idx, 3)) (hn : am_acp r.2.2.2.2.1 idx S (am_enc f a w e) = none) (hlk : am_look2 am_lk r.2.2.2.2.1 idx = some (n, 0)) (hm : am_prog[n]? = some m) (hA : (S.take (am_nar 0 m)).reverse = As) (hS : S.drop (am_nar 0 m) = S1) (hc : (Nat.beq As.length (am_nar 0 m) && Nat.ble (am_sum S1) 8 && Nat.ble (am_sum As) m.2.2.1) = true) (hh : r.2.2.2.2.2.1 = [])
    (ht : am_TE X d m 0 (lv_args 0 As) [] f a w e (am_QI (fun b f' a' => am_TE X (d + 1) r (pc + 3) L (am_iv b :: S1) f' a' w e Q E)) E) : am_TE X (d + 1) r pc L S f a w e Q E :=
  am_ecall hh (fun k => am_rstatic hq hn hlk hm hA hS hc k) ht (fun v f' a' h1 => by obtain ⟨b, rfl, h2⟩ := h1; exact h2)
theorem am_estaticV {n : Nat} {m : aM} {As : List Value} (hq : am_look r.2.2.2.2.2.2.2 pc = some (.invokestatic idx, 3)) (hn : am_acp r.2.2.2.2.1 idx S (am_enc f a w e) = none) (hlk : am_look2 am_lk r.2.2.2.2.1 idx = some (n, 0)) (hm : am_prog[n]? = some m) (hA : (S.take (am_nar 0 m)).reverse = As) (hS : S.drop (am_nar 0 m) = S1) (hc : (Nat.beq As.length (am_nar 0 m) && Nat.ble (am_sum S1) 8 && Nat.ble (am_sum As) m.2.2.1) = true) (hh : r.2.2.2.2.2.1 = [])
    (ht : am_TE X d m 0 (lv_args 0 As) [] f a w e (am_QV (fun f' a' => am_TE X (d + 1) r (pc + 3) L S1 f' a' w e Q E)) E) : am_TE X (d + 1) r pc L S f a w e Q E :=
  am_ecall hh (fun k => am_rstatic hq hn hlk hm hA hS hc k) ht (fun v f' a' h1 => by obtain ⟨rfl, h2⟩ := h1; exact h2)
theorem am_estaticR {n : Nat} {m : aM} {As : List Value} (hq : am_look r.2.2.2.2.2.2.2 pc = some (.invokestatic idx, 3)) (hn : am_acp r.2.2.2.2.1 idx S (am_enc f a w e) = none) (hlk : am_look2 am_lk r.2.2.2.2.1 idx = some (n, 0)) (hm : am_prog[n]? = some m) (hA : (S.take (am_nar 0 m)).reverse = As) (hS : S.drop (am_nar 0 m) = S1) (hc : (Nat.beq As.length (am_nar 0 m) && Nat.ble (am_sum S1) 8 && Nat.ble (am_sum As) m.2.2.1) = true) (hh : r.2.2.2.2.2.1 = [])
    (ht : am_TE X d m 0 (lv_args 0 As) [] f a w e (am_QR (fun b f' a' => am_TE X (d + 1) r (pc + 3) L (.ref b :: S1) f' a' w e Q E)) E) : am_TE X (d + 1) r pc L S f a w e Q E :=
  am_ecall hh (fun k => am_rstatic hq hn hlk hm hA hS hc k) ht (fun v f' a' h1 => by obtain ⟨b, rfl, h2⟩ := h1; exact h2)
theorem am_evirtualI {n : Nat} {m : aM} {As : List Value} (hq : am_look r.2.2.2.2.2.2.2 pc = some (.invokevirtual idx, 3)) (hn : am_slen r.2.2.2.2.1 idx S = none) (hn2 : am_schr r.2.2.2.2.1 idx S = none) (hlk : am_look2 am_lk r.2.2.2.2.1 idx = some (n, 1)) (hm : am_prog[n]? = some m) (hA : (S.take (am_nar 1 m)).reverse = As) (hS : S.drop (am_nar 1 m) = S1) (hc : (Nat.beq As.length (am_nar 1 m) && Nat.ble (am_sum S1) 8 && Nat.ble (am_sum As) m.2.2.1) = true) (hrc : am_rc1 m (am_enc f a w e) As = true) (hh : r.2.2.2.2.2.1 = [])
    (ht : am_TE X d m 0 (lv_args 0 As) [] f a w e (am_QI (fun b f' a' => am_TE X (d + 1) r (pc + 3) L (am_iv b :: S1) f' a' w e Q E)) E) : am_TE X (d + 1) r pc L S f a w e Q E :=
  am_ecall hh (fun k => am_rvirtual hq hn hn2 hlk hm hA hS hc hrc k) ht (fun v f' a' h1 => by obtain ⟨b, rfl, h2⟩ := h1; exact h2)
theorem am_evirtualV {n : Nat} {m : aM} {As : List Value} (hq : am_look r.2.2.2.2.2.2.2 pc = some (.invokevirtual idx, 3)) (hn : am_slen r.2.2.2.2.1 idx S = none) (hn2 : am_schr r.2.2.2.2.1 idx S = none) (hlk : am_look2 am_lk r.2.2.2.2.1 idx = some (n, 1)) (hm : am_prog[n]? = some m) (hA : (S.take (am_nar 1 m)).reverse = As) (hS : S.drop (am_nar 1 m) = S1) (hc : (Nat.beq As.length (am_nar 1 m) && Nat.ble (am_sum S1) 8 && Nat.ble (am_sum As) m.2.2.1) = true) (hrc : am_rc1 m (am_enc f a w e) As = true) (hh : r.2.2.2.2.2.1 = [])
    (ht : am_TE X d m 0 (lv_args 0 As) [] f a w e (am_QV (fun f' a' => am_TE X (d + 1) r (pc + 3) L S1 f' a' w e Q E)) E) : am_TE X (d + 1) r pc L S f a w e Q E :=
  am_ecall hh (fun k => am_rvirtual hq hn hn2 hlk hm hA hS hc hrc k) ht (fun v f' a' h1 => by obtain ⟨rfl, h2⟩ := h1; exact h2)
theorem am_evirtualR {n : Nat} {m : aM} {As : List Value} (hq : am_look r.2.2.2.2.2.2.2 pc = some (.invokevirtual idx, 3)) (hn : am_slen r.2.2.2.2.1 idx S = none) (hn2 : am_schr r.2.2.2.2.1 idx S = none) (hlk : am_look2 am_lk r.2.2.2.2.1 idx = some (n, 1)) (hm : am_prog[n]? = some m) (hA : (S.take (am_nar 1 m)).reverse = As) (hS : S.drop (am_nar 1 m) = S1) (hc : (Nat.beq As.length (am_nar 1 m) && Nat.ble (am_sum S1) 8 && Nat.ble (am_sum As) m.2.2.1) = true) (hrc : am_rc1 m (am_enc f a w e) As = true) (hh : r.2.2.2.2.2.1 = [])
    (ht : am_TE X d m 0 (lv_args 0 As) [] f a w e (am_QR (fun b f' a' => am_TE X (d + 1) r (pc + 3) L (.ref b :: S1) f' a' w e Q E)) E) : am_TE X (d + 1) r pc L S f a w e Q E :=
  am_ecall hh (fun k => am_rvirtual hq hn hn2 hlk hm hA hS hc hrc k) ht (fun v f' a' h1 => by obtain ⟨b, rfl, h2⟩ := h1; exact h2)
end AmTE
end
section
/-! THE MODELS by their cell, lengths, Strings, arraycopy, longs (by program) -/
def am_isM (c : Nat) : Prop := c = 14 ∨ ∃ i, i < 26 ∧ c = 28 + 3 * i
theorem am_isMx {x : Int} (h0 : 0 ≤ x) (h1 : x < 26) : am_isM (28 + 3 * x.toNat) := Or.inr ⟨x.toNat, by omega, rfl⟩
section AmAux
variable {X : List Value} {d : Nat} {r : aM} {pc : Nat} {L : aL} {S S1 : List Value} {h : aH} {f : aF} {a : aA} {w : Value} {e : Nat} {Q : Option Value → aH → Prop} {E : Nat → aH → Prop} {v : Value} {k c o : Nat} {x y : Int} {idx : Nat}
theorem am_geM (hc : am_isM c) : am_get (am_enc f a w e) c = some (false, 4, [am_iv (f (100 * c)), am_iv (f (100 * c + 1)), am_iv (f (100 * c + 2)), .ref (c + 1), .ref (c + 2), am_iv (f (100 * c + 5))]) := by
  rcases hc with rfl | ⟨i, hi, rfl⟩
  · rfl
  · match i, hi with
    | 0, _ => rfl
    | 1, _ => rfl
    | 2, _ => rfl
    | 3, _ => rfl
    | 4, _ => rfl
    | 5, _ => rfl
    | 6, _ => rfl
    | 7, _ => rfl
    | 8, _ => rfl
    | 9, _ => rfl
    | 10, _ => rfl
    | 11, _ => rfl
    | 12, _ => rfl
    | 13, _ => rfl
    | 14, _ => rfl
    | 15, _ => rfl
    | 16, _ => rfl
    | 17, _ => rfl
    | 18, _ => rfl
    | 19, _ => rfl
    | 20, _ => rfl
    | 21, _ => rfl
    | 22, _ => rfl
    | 23, _ => rfl
    | 24, _ => rfl
    | 25, _ => rfl
    | n + 26, h => exact absurd h (by omega)
theorem am_geM1 (hc : am_isM c) : am_get (am_enc f a w e) (c + 1) = some (true, 0, (a (c + 1)).map am_iv) := by
  rcases hc with rfl | ⟨i, hi, rfl⟩
  · rfl
  · match i, hi with
    | 0, _ => rfl
    | 1, _ => rfl
    | 2, _ => rfl
    | 3, _ => rfl
    | 4, _ => rfl
    | 5, _ => rfl
    | 6, _ => rfl
    | 7, _ => rfl
    | 8, _ => rfl
    | 9, _ => rfl
    | 10, _ => rfl
    | 11, _ => rfl
    | 12, _ => rfl
    | 13, _ => rfl
    | 14, _ => rfl
    | 15, _ => rfl
    | 16, _ => rfl
    | 17, _ => rfl
    | 18, _ => rfl
    | 19, _ => rfl
    | 20, _ => rfl
    | 21, _ => rfl
    | 22, _ => rfl
    | 23, _ => rfl
    | 24, _ => rfl
    | 25, _ => rfl
    | n + 26, h => exact absurd h (by omega)
set_option maxRecDepth 100000 in
theorem am_saM1 (hc : am_isM c) (l : List Int) : (am_enc f a w e).set (c + 1) (some (true, 0, l.map am_iv)) = am_enc f (am_ud a (c + 1) l) w e := by
  rcases hc with rfl | ⟨i, hi, rfl⟩
  · rfl
  · match i, hi with
    | 0, _ => rfl
    | 1, _ => rfl
    | 2, _ => rfl
    | 3, _ => rfl
    | 4, _ => rfl
    | 5, _ => rfl
    | 6, _ => rfl
    | 7, _ => rfl
    | 8, _ => rfl
    | 9, _ => rfl
    | 10, _ => rfl
    | 11, _ => rfl
    | 12, _ => rfl
    | 13, _ => rfl
    | 14, _ => rfl
    | 15, _ => rfl
    | 16, _ => rfl
    | 17, _ => rfl
    | 18, _ => rfl
    | 19, _ => rfl
    | 20, _ => rfl
    | 21, _ => rfl
    | 22, _ => rfl
    | 23, _ => rfl
    | 24, _ => rfl
    | 25, _ => rfl
    | n + 26, h => exact absurd h (by omega)
theorem am_geM2 (hc : am_isM c) : am_get (am_enc f a w e) (c + 2) = some (true, 0, (a (c + 2)).map am_iv) := by
  rcases hc with rfl | ⟨i, hi, rfl⟩
  · rfl
  · match i, hi with
    | 0, _ => rfl
    | 1, _ => rfl
    | 2, _ => rfl
    | 3, _ => rfl
    | 4, _ => rfl
    | 5, _ => rfl
    | 6, _ => rfl
    | 7, _ => rfl
    | 8, _ => rfl
    | 9, _ => rfl
    | 10, _ => rfl
    | 11, _ => rfl
    | 12, _ => rfl
    | 13, _ => rfl
    | 14, _ => rfl
    | 15, _ => rfl
    | 16, _ => rfl
    | 17, _ => rfl
    | 18, _ => rfl
    | 19, _ => rfl
    | 20, _ => rfl
    | 21, _ => rfl
    | 22, _ => rfl
    | 23, _ => rfl
    | 24, _ => rfl
    | 25, _ => rfl
    | n + 26, h => exact absurd h (by omega)
set_option maxRecDepth 100000 in
theorem am_saM2 (hc : am_isM c) (l : List Int) : (am_enc f a w e).set (c + 2) (some (true, 0, l.map am_iv)) = am_enc f (am_ud a (c + 2) l) w e := by
  rcases hc with rfl | ⟨i, hi, rfl⟩
  · rfl
  · match i, hi with
    | 0, _ => rfl
    | 1, _ => rfl
    | 2, _ => rfl
    | 3, _ => rfl
    | 4, _ => rfl
    | 5, _ => rfl
    | 6, _ => rfl
    | 7, _ => rfl
    | 8, _ => rfl
    | 9, _ => rfl
    | 10, _ => rfl
    | 11, _ => rfl
    | 12, _ => rfl
    | 13, _ => rfl
    | 14, _ => rfl
    | 15, _ => rfl
    | 16, _ => rfl
    | 17, _ => rfl
    | 18, _ => rfl
    | 19, _ => rfl
    | 20, _ => rfl
    | 21, _ => rfl
    | 22, _ => rfl
    | 23, _ => rfl
    | 24, _ => rfl
    | 25, _ => rfl
    | n + 26, h => exact absurd h (by omega)
set_option maxRecDepth 100000 in
theorem am_sfM0 (hc : am_isM c) (y : Int) : (am_enc f a w e).set c (some (false, 4, [am_iv y, am_iv (f (100 * c + 1)), am_iv (f (100 * c + 2)), .ref (c + 1), .ref (c + 2), am_iv (f (100 * c + 5))])) = am_enc (am_ud f (100 * c) y) a w e := by
  rcases hc with rfl | ⟨i, hi, rfl⟩
  · rfl
  · match i, hi with
    | 0, _ => rfl
    | 1, _ => rfl
    | 2, _ => rfl
    | 3, _ => rfl
    | 4, _ => rfl
    | 5, _ => rfl
    | 6, _ => rfl
    | 7, _ => rfl
    | 8, _ => rfl
    | 9, _ => rfl
    | 10, _ => rfl
    | 11, _ => rfl
    | 12, _ => rfl
    | 13, _ => rfl
    | 14, _ => rfl
    | 15, _ => rfl
    | 16, _ => rfl
    | 17, _ => rfl
    | 18, _ => rfl
    | 19, _ => rfl
    | 20, _ => rfl
    | 21, _ => rfl
    | 22, _ => rfl
    | 23, _ => rfl
    | 24, _ => rfl
    | 25, _ => rfl
    | n + 26, h => exact absurd h (by omega)
theorem am_pfM0 (hc : am_isM c) (hfd : am_look2 am_fd o idx = some (4, 0)) : am_putf o false idx (am_iv y :: .ref c :: S) (am_enc f a w e) = some (S, am_enc (am_ud f (100 * c) y) a w e) := by
  simp only [am_putf, hfd, am_geM hc]
  exact congrArg (fun q => some (S, q)) (am_sfM0 hc y)
theorem am_gfM0 (hc : am_isM c) (hfd : am_look2 am_fd o idx = some (4, 0)) : am_getf o idx (.ref c :: S) (am_enc f a w e) = some (am_iv (f (100 * c)) :: S) := by
  simp only [am_getf, hfd, am_geM hc]
  rfl
set_option maxRecDepth 100000 in
theorem am_sfM1 (hc : am_isM c) (y : Int) : (am_enc f a w e).set c (some (false, 4, [am_iv (f (100 * c)), am_iv y, am_iv (f (100 * c + 2)), .ref (c + 1), .ref (c + 2), am_iv (f (100 * c + 5))])) = am_enc (am_ud f (100 * c + 1) y) a w e := by
  rcases hc with rfl | ⟨i, hi, rfl⟩
  · rfl
  · match i, hi with
    | 0, _ => rfl
    | 1, _ => rfl
    | 2, _ => rfl
    | 3, _ => rfl
    | 4, _ => rfl
    | 5, _ => rfl
    | 6, _ => rfl
    | 7, _ => rfl
    | 8, _ => rfl
    | 9, _ => rfl
    | 10, _ => rfl
    | 11, _ => rfl
    | 12, _ => rfl
    | 13, _ => rfl
    | 14, _ => rfl
    | 15, _ => rfl
    | 16, _ => rfl
    | 17, _ => rfl
    | 18, _ => rfl
    | 19, _ => rfl
    | 20, _ => rfl
    | 21, _ => rfl
    | 22, _ => rfl
    | 23, _ => rfl
    | 24, _ => rfl
    | 25, _ => rfl
    | n + 26, h => exact absurd h (by omega)
theorem am_pfM1 (hc : am_isM c) (hfd : am_look2 am_fd o idx = some (4, 1)) : am_putf o false idx (am_iv y :: .ref c :: S) (am_enc f a w e) = some (S, am_enc (am_ud f (100 * c + 1) y) a w e) := by
  simp only [am_putf, hfd, am_geM hc]
  exact congrArg (fun q => some (S, q)) (am_sfM1 hc y)
theorem am_gfM1 (hc : am_isM c) (hfd : am_look2 am_fd o idx = some (4, 1)) : am_getf o idx (.ref c :: S) (am_enc f a w e) = some (am_iv (f (100 * c + 1)) :: S) := by
  simp only [am_getf, hfd, am_geM hc]
  rfl
set_option maxRecDepth 100000 in
theorem am_sfM2 (hc : am_isM c) (y : Int) : (am_enc f a w e).set c (some (false, 4, [am_iv (f (100 * c)), am_iv (f (100 * c + 1)), am_iv y, .ref (c + 1), .ref (c + 2), am_iv (f (100 * c + 5))])) = am_enc (am_ud f (100 * c + 2) y) a w e := by
  rcases hc with rfl | ⟨i, hi, rfl⟩
  · rfl
  · match i, hi with
    | 0, _ => rfl
    | 1, _ => rfl
    | 2, _ => rfl
    | 3, _ => rfl
    | 4, _ => rfl
    | 5, _ => rfl
    | 6, _ => rfl
    | 7, _ => rfl
    | 8, _ => rfl
    | 9, _ => rfl
    | 10, _ => rfl
    | 11, _ => rfl
    | 12, _ => rfl
    | 13, _ => rfl
    | 14, _ => rfl
    | 15, _ => rfl
    | 16, _ => rfl
    | 17, _ => rfl
    | 18, _ => rfl
    | 19, _ => rfl
    | 20, _ => rfl
    | 21, _ => rfl
    | 22, _ => rfl
    | 23, _ => rfl
    | 24, _ => rfl
    | 25, _ => rfl
    | n + 26, h => exact absurd h (by omega)
theorem am_pfM2 (hc : am_isM c) (hfd : am_look2 am_fd o idx = some (4, 2)) : am_putf o false idx (am_iv y :: .ref c :: S) (am_enc f a w e) = some (S, am_enc (am_ud f (100 * c + 2) y) a w e) := by
  simp only [am_putf, hfd, am_geM hc]
  exact congrArg (fun q => some (S, q)) (am_sfM2 hc y)
theorem am_gfM2 (hc : am_isM c) (hfd : am_look2 am_fd o idx = some (4, 2)) : am_getf o idx (.ref c :: S) (am_enc f a w e) = some (am_iv (f (100 * c + 2)) :: S) := by
  simp only [am_getf, hfd, am_geM hc]
  rfl
set_option maxRecDepth 100000 in
theorem am_sfM5 (hc : am_isM c) (y : Int) : (am_enc f a w e).set c (some (false, 4, [am_iv (f (100 * c)), am_iv (f (100 * c + 1)), am_iv (f (100 * c + 2)), .ref (c + 1), .ref (c + 2), am_iv y])) = am_enc (am_ud f (100 * c + 5) y) a w e := by
  rcases hc with rfl | ⟨i, hi, rfl⟩
  · rfl
  · match i, hi with
    | 0, _ => rfl
    | 1, _ => rfl
    | 2, _ => rfl
    | 3, _ => rfl
    | 4, _ => rfl
    | 5, _ => rfl
    | 6, _ => rfl
    | 7, _ => rfl
    | 8, _ => rfl
    | 9, _ => rfl
    | 10, _ => rfl
    | 11, _ => rfl
    | 12, _ => rfl
    | 13, _ => rfl
    | 14, _ => rfl
    | 15, _ => rfl
    | 16, _ => rfl
    | 17, _ => rfl
    | 18, _ => rfl
    | 19, _ => rfl
    | 20, _ => rfl
    | 21, _ => rfl
    | 22, _ => rfl
    | 23, _ => rfl
    | 24, _ => rfl
    | 25, _ => rfl
    | n + 26, h => exact absurd h (by omega)
theorem am_pfM5 (hc : am_isM c) (hfd : am_look2 am_fd o idx = some (4, 5)) : am_putf o false idx (am_iv y :: .ref c :: S) (am_enc f a w e) = some (S, am_enc (am_ud f (100 * c + 5) y) a w e) := by
  simp only [am_putf, hfd, am_geM hc]
  exact congrArg (fun q => some (S, q)) (am_sfM5 hc y)
theorem am_gfM5 (hc : am_isM c) (hfd : am_look2 am_fd o idx = some (4, 5)) : am_getf o idx (.ref c :: S) (am_enc f a w e) = some (am_iv (f (100 * c + 5)) :: S) := by
  simp only [am_getf, hfd, am_geM hc]
  rfl
theorem am_gfM3 (hc : am_isM c) (hfd : am_look2 am_fd o idx = some (4, 3)) : am_getf o idx (.ref c :: S) (am_enc f a w e) = some (.ref (c + 1) :: S) := by
  simp only [am_getf, hfd, am_geM hc]
  rfl
theorem am_gfM4 (hc : am_isM c) (hfd : am_look2 am_fd o idx = some (4, 4)) : am_getf o idx (.ref c :: S) (am_enc f a w e) = some (.ref (c + 2) :: S) := by
  simp only [am_getf, hfd, am_geM hc]
  rfl
theorem am_rcM {As : List Value} {m : aM} (hc : am_isM c) (hm : m.2.2.2.2.1 = 4) : am_rc1 m (am_enc f a w e) (.ref c :: As) = true := by
  simp only [am_rc1, am_geM hc, hm]
  rfl
theorem am_mods (h0 : 0 ≤ x) (h1 : x < 26) : am_ald X 3 (am_iv x :: .ref 13 :: S) (am_enc f a w e) = some (.ref (28 + 3 * x.toNat) :: S) := by
  obtain ⟨e1, e2⟩ := am_ixN h0 (by omega)
  have hi : x.toNat < 26 := by omega
  generalize hn : x.toNat = n at hi e2
  simp only [am_ald, am_ge13, am_ix, e1, e2]
  match n, hi with
  | 0, _ => rfl
  | 1, _ => rfl
  | 2, _ => rfl
  | 3, _ => rfl
  | 4, _ => rfl
  | 5, _ => rfl
  | 6, _ => rfl
  | 7, _ => rfl
  | 8, _ => rfl
  | 9, _ => rfl
  | 10, _ => rfl
  | 11, _ => rfl
  | 12, _ => rfl
  | 13, _ => rfl
  | 14, _ => rfl
  | 15, _ => rfl
  | 16, _ => rfl
  | 17, _ => rfl
  | 18, _ => rfl
  | 19, _ => rfl
  | 20, _ => rfl
  | 21, _ => rfl
  | 22, _ => rfl
  | 23, _ => rfl
  | 24, _ => rfl
  | 25, _ => rfl
  | n + 26, h => exact absurd h (by omega)
theorem am_rlenI {tk : Nat} {l : List Int} (hq : am_look r.2.2.2.2.2.2.2 pc = some (.arraylength, 1)) (hg : am_get h k = some (true, tk, l.map am_iv)) (ht : am_T X d r (pc + 1) L (am_iv (l.length : Int) :: S) h Q E) : am_T X d r pc L (.ref k :: S) h Q E :=
  am_rlen hq hg (by rw [List.length_map]; exact ht)
theorem am_slenE {s : Nat} (hs : s < am_sn) (hl : am_look2 am_sli o idx = some k) (hS : Nat.ble (am_sum S) 8 = true) : am_slen o idx (.ref (1000000 + s) :: S) = some (am_iv (am_sl s : Int) :: S) := by
  simp only [am_slen, hl]
  rw [show (Nat.ble 1000000 (1000000 + s) && Nat.blt (1000000 + s) (1000000 + am_sn) && Nat.ble (am_sum S) 8) = true by
    rw [hS, show Nat.ble 1000000 (1000000 + s) = true from Nat.ble_eq_true_of_le (by omega), show Nat.blt (1000000 + s) (1000000 + am_sn) = true from Nat.ble_eq_true_of_le (by omega)]; rfl]
  rw [show am_iv (am_sl s : Int) = .int (Int32.ofNat (am_sl s)) by rw [am_iv, Int32.ofInt_eq_ofNat]]
  simp only [Nat.add_sub_cancel_left]
def am_sc (s : Nat) (x : Int) : Int := ((am_sB.getD s []).getD x.toNat 0).toInt
theorem am_schrE {s : Nat} (hs : s < am_sn) (h0 : 0 ≤ x) (h1 : x < am_sl s) (h2 : x < 2147483648) (hl : am_look2 am_sci o idx = some k) (hS : Nat.ble (am_sum S) 8 = true) : am_schr o idx (am_iv x :: .ref (1000000 + s) :: S) = some (am_iv (am_sc s x) :: S) := by
  obtain ⟨e1, e2⟩ := am_ixN h0 h2
  simp only [am_schr, hl, e1, e2, Nat.add_sub_cancel_left]
  rw [show (Nat.ble 1000000 (1000000 + s) && Nat.blt (1000000 + s) (1000000 + am_sn) && Nat.ble (am_sum S) 8 && !false && Nat.blt x.toNat (am_sl s)) = true by
    rw [hS, show Nat.ble 1000000 (1000000 + s) = true from Nat.ble_eq_true_of_le (by omega), show Nat.blt (1000000 + s) (1000000 + am_sn) = true from Nat.ble_eq_true_of_le (by omega), show Nat.blt x.toNat (am_sl s) = true from Nat.ble_eq_true_of_le (by omega)]; rfl]
  simp only [am_sc, am_iv, Int32.ofInt_toInt]
def am_cpyI (l0 l1 : List Int) (sp dp n : Int) : List Int := l1.take dp.toNat ++ ((l0.drop sp.toNat).take n.toNat ++ l1.drop (dp.toNat + n.toNat))
theorem am_acpE {s0 dd : Nat} {l0 l1 : List Int} {sp dp n : Int} {h1 : aH} (hl : am_look2 am_acT o idx = some k) (hs0 : am_get h s0 = some (true, 0, l0.map am_iv)) (hd0 : am_get h dd = some (true, 0, l1.map am_iv)) (hne : Nat.beq s0 dd = false) (hS : Nat.ble (am_sum S) 8 = true) (g0 : 0 ≤ n ∧ 0 ≤ sp ∧ 0 ≤ dp) (g1 : sp + n ≤ l0.length) (g2 : dp + n ≤ l1.length) (g3 : n < 2147483648 ∧ sp < 2147483648 ∧ dp < 2147483648)
    (hh : h.set dd (some (true, 0, (am_cpyI l0 l1 sp dp n).map am_iv)) = h1) : am_acp o idx (am_iv n :: am_iv dp :: .ref dd :: am_iv sp :: .ref s0 :: S) h = some (S, h1) := by
  obtain ⟨a1, a2⟩ := am_ixN g0.1 g3.1
  obtain ⟨b1, b2⟩ := am_ixN g0.2.1 g3.2.1
  obtain ⟨c1, c2⟩ := am_ixN g0.2.2 g3.2.2
  simp only [am_acp, hl, hs0, hd0, a1, a2, b1, b2, c1, c2, hne, hS, List.length_map]
  rw [show (Nat.beq 0 0 && Nat.beq 0 0 && !false && true && !false && !false && !false && Nat.ble (sp.toNat + n.toNat) l0.length && Nat.ble (dp.toNat + n.toNat) l1.length && (((l0.map am_iv).drop sp.toNat).take n.toNat).all am_isI) = true by
    rw [show Nat.ble (sp.toNat + n.toNat) l0.length = true from Nat.ble_eq_true_of_le (by omega), show Nat.ble (dp.toNat + n.toNat) l1.length = true from Nat.ble_eq_true_of_le (by omega), ← List.map_drop, ← List.map_take, List.all_map]
    simp [am_isI]]
  simp only [am_cpy, ← List.map_drop, ← List.map_take, ← List.map_append]
  exact congrArg (fun q => some (S, q)) hh
theorem am_ri2l (hq : am_look r.2.2.2.2.2.2.2 pc = some (.i2l, 1)) (ht : am_T X d r (pc + 1) L (.long (Int32.ofInt x).toInt64 :: S) h Q E) : am_T X d r pc L (am_iv x :: S) h Q E := am_rpure hq (fun _ => rfl) ht
theorem am_rl2i {z : Int64} (hq : am_look r.2.2.2.2.2.2.2 pc = some (.l2i, 1)) (ht : am_T X d r (pc + 1) L (am_iv z.toInt32.toInt :: S) h Q E) : am_T X d r pc L (.long z :: S) h Q E := am_rpure hq (fun _ => by rw [show am_iv z.toInt32.toInt = .int z.toInt32 by rw [am_iv, Int32.ofInt_toInt]]; rfl) ht
theorem am_rland {z z1 : Int64} (hq : am_look r.2.2.2.2.2.2.2 pc = some (.land, 1)) (ht : am_T X d r (pc + 1) L (.long (z &&& z1) :: S) h Q E) : am_T X d r pc L (.long z1 :: .long z :: S) h Q E := am_rpure hq (fun _ => rfl) ht
theorem am_rlor {z z1 : Int64} (hq : am_look r.2.2.2.2.2.2.2 pc = some (.lor, 1)) (ht : am_T X d r (pc + 1) L (.long (z ||| z1) :: S) h Q E) : am_T X d r pc L (.long z1 :: .long z :: S) h Q E := am_rpure hq (fun _ => rfl) ht
theorem am_rlshr {z : Int64} (hq : am_look r.2.2.2.2.2.2.2 pc = some (.lshr, 1)) (ht : am_T X d r (pc + 1) L (.long (z >>> ((Int32.ofInt x).toInt64 &&& 63)) :: S) h Q E) : am_T X d r pc L (am_iv x :: .long z :: S) h Q E := am_rpure hq (fun _ => rfl) ht
theorem am_rlshl {z : Int64} (hq : am_look r.2.2.2.2.2.2.2 pc = some (.lshl, 1)) (ht : am_T X d r (pc + 1) L (.long (z <<< ((Int32.ofInt x).toInt64 &&& 63)) :: S) h Q E) : am_T X d r pc L (am_iv x :: .long z :: S) h Q E := am_rpure hq (fun _ => rfl) ht
end AmAux
end
