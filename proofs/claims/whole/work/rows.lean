section
-- ===== PART A: goes FIRST, ahead of the names: the tables' words, and 'selects' of the private methods out of them =====
/-- a private method of a class that the tables say can be made, by its rows of tables_1 -/
def lw_okq (q : MethodName × Nat) : Prop := (q.1.cls ≠ "java/lang/invoke/MethodHandle" ∧ q.1.cls ≠ "java/lang/invoke/VarHandle") ∧ Cond.instantiable q.1.cls q.2 ∈ tables_1 ∧ Cond.privateMethod q.1 ∈ tables_1 ∧ Cond.instanceMethod q.1 ∈ tables_1
theorem lw_p0 : lw_okq (⟨"FewKeys$Text", "skipBlanks", "()V"⟩, 8) := ⟨⟨by decide +kernel, by decide +kernel⟩, List.mem_of_getElem? (i := 30) (by decide +kernel), List.mem_of_getElem? (i := 428) (by decide +kernel), List.mem_of_getElem? (i := 429) (by decide +kernel)⟩
theorem lw_p1 : lw_okq (⟨"FewKeys$Text", "readDial", "(LFewKeys$Reckoner;)Z"⟩, 8) := ⟨⟨by decide +kernel, by decide +kernel⟩, List.mem_of_getElem? (i := 30) (by decide +kernel), List.mem_of_getElem? (i := 435) (by decide +kernel), List.mem_of_getElem? (i := 436) (by decide +kernel)⟩
theorem lw_p2 : lw_okq (⟨"FewKeys$Text", "takeWord", "()V"⟩, 8) := ⟨⟨by decide +kernel, by decide +kernel⟩, List.mem_of_getElem? (i := 30) (by decide +kernel), List.mem_of_getElem? (i := 439) (by decide +kernel), List.mem_of_getElem? (i := 440) (by decide +kernel)⟩
theorem lw_p3 : lw_okq (⟨"FewKeys$Text", "isBetween", "(III)Z"⟩, 8) := ⟨⟨by decide +kernel, by decide +kernel⟩, List.mem_of_getElem? (i := 30) (by decide +kernel), List.mem_of_getElem? (i := 443) (by decide +kernel), List.mem_of_getElem? (i := 444) (by decide +kernel)⟩
theorem lw_p4 : lw_okq (⟨"FewKeys$Text", "wordIs", "(Ljava/lang/String;)Z"⟩, 8) := ⟨⟨by decide +kernel, by decide +kernel⟩, List.mem_of_getElem? (i := 30) (by decide +kernel), List.mem_of_getElem? (i := 448) (by decide +kernel), List.mem_of_getElem? (i := 449) (by decide +kernel)⟩
theorem lw_p5 : lw_okq (⟨"FewKeys$Text", "refuse", "(II)Z"⟩, 8) := ⟨⟨by decide +kernel, by decide +kernel⟩, List.mem_of_getElem? (i := 30) (by decide +kernel), List.mem_of_getElem? (i := 500) (by decide +kernel), List.mem_of_getElem? (i := 501) (by decide +kernel)⟩
theorem lw_p6 : lw_okq (⟨"FewKeys$Text", "takeNumber", "(II)Z"⟩, 8) := ⟨⟨by decide +kernel, by decide +kernel⟩, List.mem_of_getElem? (i := 30) (by decide +kernel), List.mem_of_getElem? (i := 506) (by decide +kernel), List.mem_of_getElem? (i := 507) (by decide +kernel)⟩
theorem lw_p7 : lw_okq (⟨"FewKeys$Text", "takeEnd", "()Z"⟩, 8) := ⟨⟨by decide +kernel, by decide +kernel⟩, List.mem_of_getElem? (i := 30) (by decide +kernel), List.mem_of_getElem? (i := 511) (by decide +kernel), List.mem_of_getElem? (i := 512) (by decide +kernel)⟩
theorem lw_p8 : lw_okq (⟨"FewKeys$Text", "readKey", "(LFewKeys$Reckoner;)Z"⟩, 8) := ⟨⟨by decide +kernel, by decide +kernel⟩, List.mem_of_getElem? (i := 30) (by decide +kernel), List.mem_of_getElem? (i := 515) (by decide +kernel), List.mem_of_getElem? (i := 516) (by decide +kernel)⟩
theorem lw_p9 : lw_okq (⟨"FewKeys$Text", "kindOfWord", "()I"⟩, 8) := ⟨⟨by decide +kernel, by decide +kernel⟩, List.mem_of_getElem? (i := 30) (by decide +kernel), List.mem_of_getElem? (i := 519) (by decide +kernel), List.mem_of_getElem? (i := 520) (by decide +kernel)⟩
theorem lw_p10 : lw_okq (⟨"FewKeys", "stateChanged", "()V"⟩, 14) := ⟨⟨by decide +kernel, by decide +kernel⟩, List.mem_of_getElem? (i := 22) (by decide +kernel), List.mem_of_getElem? (i := 538) (by decide +kernel), List.mem_of_getElem? (i := 539) (by decide +kernel)⟩
theorem lw_p11 : lw_okq (⟨"FewKeys", "isKey", "(I)Z"⟩, 14) := ⟨⟨by decide +kernel, by decide +kernel⟩, List.mem_of_getElem? (i := 22) (by decide +kernel), List.mem_of_getElem? (i := 576) (by decide +kernel), List.mem_of_getElem? (i := 577) (by decide +kernel)⟩
theorem lw_p12 : lw_okq (⟨"FewKeys$Reckoner", "afterFigure", "(II)I"⟩, 9) := ⟨⟨by decide +kernel, by decide +kernel⟩, List.mem_of_getElem? (i := 65) (by decide +kernel), List.mem_of_getElem? (i := 594) (by decide +kernel), List.mem_of_getElem? (i := 595) (by decide +kernel)⟩
theorem lw_p13 : lw_okq (⟨"FewKeys$Reckoner", "afterSign", "(II)I"⟩, 9) := ⟨⟨by decide +kernel, by decide +kernel⟩, List.mem_of_getElem? (i := 65) (by decide +kernel), List.mem_of_getElem? (i := 601) (by decide +kernel), List.mem_of_getElem? (i := 602) (by decide +kernel)⟩
theorem lw_p14 : lw_okq (⟨"FewKeys$Reckoner", "reckon", "(III)I"⟩, 9) := ⟨⟨by decide +kernel, by decide +kernel⟩, List.mem_of_getElem? (i := 65) (by decide +kernel), List.mem_of_getElem? (i := 607) (by decide +kernel), List.mem_of_getElem? (i := 608) (by decide +kernel)⟩
theorem lw_p15 : lw_okq (⟨"FewKeys", "isOnDial", "(I)Z"⟩, 14) := ⟨⟨by decide +kernel, by decide +kernel⟩, List.mem_of_getElem? (i := 22) (by decide +kernel), List.mem_of_getElem? (i := 624) (by decide +kernel), List.mem_of_getElem? (i := 625) (by decide +kernel)⟩
def lw_privs_1 : List (MethodName × Nat) := [(⟨"FewKeys$Text", "skipBlanks", "()V"⟩, 8), (⟨"FewKeys$Text", "readDial", "(LFewKeys$Reckoner;)Z"⟩, 8), (⟨"FewKeys$Text", "takeWord", "()V"⟩, 8), (⟨"FewKeys$Text", "isBetween", "(III)Z"⟩, 8), (⟨"FewKeys$Text", "wordIs", "(Ljava/lang/String;)Z"⟩, 8), (⟨"FewKeys$Text", "refuse", "(II)Z"⟩, 8), (⟨"FewKeys$Text", "takeNumber", "(II)Z"⟩, 8), (⟨"FewKeys$Text", "takeEnd", "()Z"⟩, 8), (⟨"FewKeys$Text", "readKey", "(LFewKeys$Reckoner;)Z"⟩, 8), (⟨"FewKeys$Text", "kindOfWord", "()I"⟩, 8), (⟨"FewKeys", "stateChanged", "()V"⟩, 14), (⟨"FewKeys", "isKey", "(I)Z"⟩, 14), (⟨"FewKeys$Reckoner", "afterFigure", "(II)I"⟩, 9), (⟨"FewKeys$Reckoner", "afterSign", "(II)I"⟩, 9), (⟨"FewKeys$Reckoner", "reckon", "(III)I"⟩, 9), (⟨"FewKeys", "isOnDial", "(I)Z"⟩, 14)]
theorem lw_r1 : ∀ q ∈ lw_privs_1, lw_okq q := List.forall_mem_cons.mpr ⟨lw_p0, List.forall_mem_cons.mpr ⟨lw_p1, List.forall_mem_cons.mpr ⟨lw_p2, List.forall_mem_cons.mpr ⟨lw_p3, List.forall_mem_cons.mpr ⟨lw_p4, List.forall_mem_cons.mpr ⟨lw_p5, List.forall_mem_cons.mpr ⟨lw_p6, List.forall_mem_cons.mpr ⟨lw_p7, List.forall_mem_cons.mpr ⟨lw_p8, List.forall_mem_cons.mpr ⟨lw_p9, List.forall_mem_cons.mpr ⟨lw_p10, List.forall_mem_cons.mpr ⟨lw_p11, List.forall_mem_cons.mpr ⟨lw_p12, List.forall_mem_cons.mpr ⟨lw_p13, List.forall_mem_cons.mpr ⟨lw_p14, List.forall_mem_cons.mpr ⟨lw_p15, fun _ h => absurd h List.not_mem_nil⟩⟩⟩⟩⟩⟩⟩⟩⟩⟩⟩⟩⟩⟩⟩⟩
theorem lw_p16 : lw_okq (⟨"FewKeys$Steps", "spread", "(LFewKeys$Reckoner;I)V"⟩, 10) := ⟨⟨by decide +kernel, by decide +kernel⟩, List.mem_of_getElem? (i := 212) (by decide +kernel), List.mem_of_getElem? (i := 635) (by decide +kernel), List.mem_of_getElem? (i := 636) (by decide +kernel)⟩
theorem lw_p17 : lw_okq (⟨"FewKeys$Steps", "meet", "(III)V"⟩, 10) := ⟨⟨by decide +kernel, by decide +kernel⟩, List.mem_of_getElem? (i := 212) (by decide +kernel), List.mem_of_getElem? (i := 646) (by decide +kernel), List.mem_of_getElem? (i := 647) (by decide +kernel)⟩
theorem lw_p18 : lw_okq (⟨"FewKeys$Costs", "meet", "(II)V"⟩, 6) := ⟨⟨by decide +kernel, by decide +kernel⟩, List.mem_of_getElem? (i := 252) (by decide +kernel), List.mem_of_getElem? (i := 690) (by decide +kernel), List.mem_of_getElem? (i := 691) (by decide +kernel)⟩
theorem lw_p19 : lw_okq (⟨"FewKeys$Costs", "cheapestKey", "(LFewKeys$Reckoner;)I"⟩, 6) := ⟨⟨by decide +kernel, by decide +kernel⟩, List.mem_of_getElem? (i := 252) (by decide +kernel), List.mem_of_getElem? (i := 700) (by decide +kernel), List.mem_of_getElem? (i := 701) (by decide +kernel)⟩
theorem lw_p20 : lw_okq (⟨"FewKeys$Steps", "together", "(LFewKeys$Reckoner;LFewKeys$Present;)I"⟩, 10) := ⟨⟨by decide +kernel, by decide +kernel⟩, List.mem_of_getElem? (i := 212) (by decide +kernel), List.mem_of_getElem? (i := 735) (by decide +kernel), List.mem_of_getElem? (i := 736) (by decide +kernel)⟩
theorem lw_p21 : lw_okq (⟨"FewKeys$Chain", "spread", "(LFewKeys$Reckoner;IZ)V"⟩, 7) := ⟨⟨by decide +kernel, by decide +kernel⟩, List.mem_of_getElem? (i := 279) (by decide +kernel), List.mem_of_getElem? (i := 760) (by decide +kernel), List.mem_of_getElem? (i := 761) (by decide +kernel)⟩
theorem lw_p22 : lw_okq (⟨"FewKeys$Chain", "meet", "(III)V"⟩, 7) := ⟨⟨by decide +kernel, by decide +kernel⟩, List.mem_of_getElem? (i := 279) (by decide +kernel), List.mem_of_getElem? (i := 766) (by decide +kernel), List.mem_of_getElem? (i := 767) (by decide +kernel)⟩
theorem lw_p23 : lw_okq (⟨"FewKeys$Chain", "endsBecomeStarts", "()V"⟩, 7) := ⟨⟨by decide +kernel, by decide +kernel⟩, List.mem_of_getElem? (i := 279) (by decide +kernel), List.mem_of_getElem? (i := 774) (by decide +kernel), List.mem_of_getElem? (i := 775) (by decide +kernel)⟩
theorem lw_p24 : lw_okq (⟨"FewKeys", "isQuicker", "(III)Z"⟩, 14) := ⟨⟨by decide +kernel, by decide +kernel⟩, List.mem_of_getElem? (i := 22) (by decide +kernel), List.mem_of_getElem? (i := 785) (by decide +kernel), List.mem_of_getElem? (i := 786) (by decide +kernel)⟩
theorem lw_p25 : lw_okq (⟨"FewKeys$Past", "goOn", "(LFewKeys$Reckoner;[I[I)V"⟩, 3) := ⟨⟨by decide +kernel, by decide +kernel⟩, List.mem_of_getElem? (i := 307) (by decide +kernel), List.mem_of_getElem? (i := 804) (by decide +kernel), List.mem_of_getElem? (i := 805) (by decide +kernel)⟩
theorem lw_p26 : lw_okq (⟨"FewKeys$Past", "join", "([III)V"⟩, 3) := ⟨⟨by decide +kernel, by decide +kernel⟩, List.mem_of_getElem? (i := 307) (by decide +kernel), List.mem_of_getElem? (i := 820) (by decide +kernel), List.mem_of_getElem? (i := 821) (by decide +kernel)⟩
theorem lw_p27 : lw_okq (⟨"FewKeys$Past", "countLast", "(LFewKeys$Reckoner;[II)V"⟩, 3) := ⟨⟨by decide +kernel, by decide +kernel⟩, List.mem_of_getElem? (i := 307) (by decide +kernel), List.mem_of_getElem? (i := 826) (by decide +kernel), List.mem_of_getElem? (i := 827) (by decide +kernel)⟩
theorem lw_p28 : lw_okq (⟨"FewKeys$Trials", "allDiffer", "(I)Z"⟩, 4) := ⟨⟨by decide +kernel, by decide +kernel⟩, List.mem_of_getElem? (i := 325) (by decide +kernel), List.mem_of_getElem? (i := 848) (by decide +kernel), List.mem_of_getElem? (i := 849) (by decide +kernel)⟩
theorem lw_p29 : lw_okq (⟨"FewKeys$Trials", "strokeAll", "(LFewKeys$Reckoner;II)V"⟩, 4) := ⟨⟨by decide +kernel, by decide +kernel⟩, List.mem_of_getElem? (i := 325) (by decide +kernel), List.mem_of_getElem? (i := 853) (by decide +kernel), List.mem_of_getElem? (i := 854) (by decide +kernel)⟩
theorem lw_p30 : lw_okq (⟨"FewKeys", "imageAt", "(I)LFewKeys$Present;"⟩, 14) := ⟨⟨by decide +kernel, by decide +kernel⟩, List.mem_of_getElem? (i := 22) (by decide +kernel), List.mem_of_getElem? (i := 921) (by decide +kernel), List.mem_of_getElem? (i := 922) (by decide +kernel)⟩
theorem lw_p31 : lw_okq (⟨"FewKeysModel", "isRead", "()Z"⟩, 41) := ⟨⟨by decide +kernel, by decide +kernel⟩, List.mem_of_getElem? (i := 934) (by decide +kernel), List.mem_of_getElem? (i := 1080) (by decide +kernel), List.mem_of_getElem? (i := 1081) (by decide +kernel)⟩
def lw_privs_2 : List (MethodName × Nat) := [(⟨"FewKeys$Steps", "spread", "(LFewKeys$Reckoner;I)V"⟩, 10), (⟨"FewKeys$Steps", "meet", "(III)V"⟩, 10), (⟨"FewKeys$Costs", "meet", "(II)V"⟩, 6), (⟨"FewKeys$Costs", "cheapestKey", "(LFewKeys$Reckoner;)I"⟩, 6), (⟨"FewKeys$Steps", "together", "(LFewKeys$Reckoner;LFewKeys$Present;)I"⟩, 10), (⟨"FewKeys$Chain", "spread", "(LFewKeys$Reckoner;IZ)V"⟩, 7), (⟨"FewKeys$Chain", "meet", "(III)V"⟩, 7), (⟨"FewKeys$Chain", "endsBecomeStarts", "()V"⟩, 7), (⟨"FewKeys", "isQuicker", "(III)Z"⟩, 14), (⟨"FewKeys$Past", "goOn", "(LFewKeys$Reckoner;[I[I)V"⟩, 3), (⟨"FewKeys$Past", "join", "([III)V"⟩, 3), (⟨"FewKeys$Past", "countLast", "(LFewKeys$Reckoner;[II)V"⟩, 3), (⟨"FewKeys$Trials", "allDiffer", "(I)Z"⟩, 4), (⟨"FewKeys$Trials", "strokeAll", "(LFewKeys$Reckoner;II)V"⟩, 4), (⟨"FewKeys", "imageAt", "(I)LFewKeys$Present;"⟩, 14), (⟨"FewKeysModel", "isRead", "()Z"⟩, 41)]
theorem lw_r2 : ∀ q ∈ lw_privs_2, lw_okq q := List.forall_mem_cons.mpr ⟨lw_p16, List.forall_mem_cons.mpr ⟨lw_p17, List.forall_mem_cons.mpr ⟨lw_p18, List.forall_mem_cons.mpr ⟨lw_p19, List.forall_mem_cons.mpr ⟨lw_p20, List.forall_mem_cons.mpr ⟨lw_p21, List.forall_mem_cons.mpr ⟨lw_p22, List.forall_mem_cons.mpr ⟨lw_p23, List.forall_mem_cons.mpr ⟨lw_p24, List.forall_mem_cons.mpr ⟨lw_p25, List.forall_mem_cons.mpr ⟨lw_p26, List.forall_mem_cons.mpr ⟨lw_p27, List.forall_mem_cons.mpr ⟨lw_p28, List.forall_mem_cons.mpr ⟨lw_p29, List.forall_mem_cons.mpr ⟨lw_p30, List.forall_mem_cons.mpr ⟨lw_p31, fun _ h => absurd h List.not_mem_nil⟩⟩⟩⟩⟩⟩⟩⟩⟩⟩⟩⟩⟩⟩⟩⟩
theorem lw_p32 : lw_okq (⟨"FewKeysModel", "nextToken", "()V"⟩, 41) := ⟨⟨by decide +kernel, by decide +kernel⟩, List.mem_of_getElem? (i := 934) (by decide +kernel), List.mem_of_getElem? (i := 1084) (by decide +kernel), List.mem_of_getElem? (i := 1085) (by decide +kernel)⟩
theorem lw_p33 : lw_okq (⟨"FewKeysModel", "fails", "(I)Z"⟩, 41) := ⟨⟨by decide +kernel, by decide +kernel⟩, List.mem_of_getElem? (i := 934) (by decide +kernel), List.mem_of_getElem? (i := 1095) (by decide +kernel), List.mem_of_getElem? (i := 1096) (by decide +kernel)⟩
theorem lw_p34 : lw_okq (⟨"FewKeysModel", "isDial", "()Z"⟩, 41) := ⟨⟨by decide +kernel, by decide +kernel⟩, List.mem_of_getElem? (i := 934) (by decide +kernel), List.mem_of_getElem? (i := 1099) (by decide +kernel), List.mem_of_getElem? (i := 1100) (by decide +kernel)⟩
theorem lw_p35 : lw_okq (⟨"FewKeysModel", "isNext", "(III)Z"⟩, 41) := ⟨⟨by decide +kernel, by decide +kernel⟩, List.mem_of_getElem? (i := 934) (by decide +kernel), List.mem_of_getElem? (i := 1105) (by decide +kernel), List.mem_of_getElem? (i := 1106) (by decide +kernel)⟩
theorem lw_p36 : lw_okq (⟨"FewKeysModel", "ends", "()Z"⟩, 41) := ⟨⟨by decide +kernel, by decide +kernel⟩, List.mem_of_getElem? (i := 934) (by decide +kernel), List.mem_of_getElem? (i := 1109) (by decide +kernel), List.mem_of_getElem? (i := 1110) (by decide +kernel)⟩
theorem lw_p37 : lw_okq (⟨"FewKeysModel", "isKey", "()Z"⟩, 41) := ⟨⟨by decide +kernel, by decide +kernel⟩, List.mem_of_getElem? (i := 934) (by decide +kernel), List.mem_of_getElem? (i := 1113) (by decide +kernel), List.mem_of_getElem? (i := 1114) (by decide +kernel)⟩
theorem lw_p38 : lw_okq (⟨"FewKeysModel", "isNow", "(I)Z"⟩, 41) := ⟨⟨by decide +kernel, by decide +kernel⟩, List.mem_of_getElem? (i := 934) (by decide +kernel), List.mem_of_getElem? (i := 1125) (by decide +kernel), List.mem_of_getElem? (i := 1126) (by decide +kernel)⟩
theorem lw_p39 : lw_okq (⟨"FewKeysModel", "isCost", "(I)Z"⟩, 41) := ⟨⟨by decide +kernel, by decide +kernel⟩, List.mem_of_getElem? (i := 934) (by decide +kernel), List.mem_of_getElem? (i := 1129) (by decide +kernel), List.mem_of_getElem? (i := 1130) (by decide +kernel)⟩
theorem lw_p40 : lw_okq (⟨"FewKeysModel", "start", "()V"⟩, 41) := ⟨⟨by decide +kernel, by decide +kernel⟩, List.mem_of_getElem? (i := 934) (by decide +kernel), List.mem_of_getElem? (i := 1133) (by decide +kernel), List.mem_of_getElem? (i := 1134) (by decide +kernel)⟩
theorem lw_p41 : lw_okq (⟨"FewKeysModel", "doStroke", "(I)V"⟩, 41) := ⟨⟨by decide +kernel, by decide +kernel⟩, List.mem_of_getElem? (i := 934) (by decide +kernel), List.mem_of_getElem? (i := 1154) (by decide +kernel), List.mem_of_getElem? (i := 1155) (by decide +kernel)⟩
theorem lw_p42 : lw_okq (⟨"FewKeysModel", "figure", "(I)V"⟩, 41) := ⟨⟨by decide +kernel, by decide +kernel⟩, List.mem_of_getElem? (i := 934) (by decide +kernel), List.mem_of_getElem? (i := 1158) (by decide +kernel), List.mem_of_getElem? (i := 1159) (by decide +kernel)⟩
theorem lw_p43 : lw_okq (⟨"FewKeysModel", "reckon", "(III)I"⟩, 41) := ⟨⟨by decide +kernel, by decide +kernel⟩, List.mem_of_getElem? (i := 934) (by decide +kernel), List.mem_of_getElem? (i := 1162) (by decide +kernel), List.mem_of_getElem? (i := 1163) (by decide +kernel)⟩
theorem lw_p44 : lw_okq (⟨"FewKeysModel", "bound", "(I)I"⟩, 41) := ⟨⟨by decide +kernel, by decide +kernel⟩, List.mem_of_getElem? (i := 934) (by decide +kernel), List.mem_of_getElem? (i := 1166) (by decide +kernel), List.mem_of_getElem? (i := 1167) (by decide +kernel)⟩
theorem lw_p45 : lw_okq (⟨"FewKeysModel", "isNumber", "(I)Z"⟩, 41) := ⟨⟨by decide +kernel, by decide +kernel⟩, List.mem_of_getElem? (i := 934) (by decide +kernel), List.mem_of_getElem? (i := 1178) (by decide +kernel), List.mem_of_getElem? (i := 1179) (by decide +kernel)⟩
theorem lw_p46 : lw_okq (⟨"FewKeysModel", "layFewest", "(I)V"⟩, 41) := ⟨⟨by decide +kernel, by decide +kernel⟩, List.mem_of_getElem? (i := 934) (by decide +kernel), List.mem_of_getElem? (i := 1182) (by decide +kernel), List.mem_of_getElem? (i := 1183) (by decide +kernel)⟩
theorem lw_p47 : lw_okq (⟨"FewKeysModel", "stateNow", "()I"⟩, 41) := ⟨⟨by decide +kernel, by decide +kernel⟩, List.mem_of_getElem? (i := 934) (by decide +kernel), List.mem_of_getElem? (i := 1186) (by decide +kernel), List.mem_of_getElem? (i := 1187) (by decide +kernel)⟩
def lw_privs_3 : List (MethodName × Nat) := [(⟨"FewKeysModel", "nextToken", "()V"⟩, 41), (⟨"FewKeysModel", "fails", "(I)Z"⟩, 41), (⟨"FewKeysModel", "isDial", "()Z"⟩, 41), (⟨"FewKeysModel", "isNext", "(III)Z"⟩, 41), (⟨"FewKeysModel", "ends", "()Z"⟩, 41), (⟨"FewKeysModel", "isKey", "()Z"⟩, 41), (⟨"FewKeysModel", "isNow", "(I)Z"⟩, 41), (⟨"FewKeysModel", "isCost", "(I)Z"⟩, 41), (⟨"FewKeysModel", "start", "()V"⟩, 41), (⟨"FewKeysModel", "doStroke", "(I)V"⟩, 41), (⟨"FewKeysModel", "figure", "(I)V"⟩, 41), (⟨"FewKeysModel", "reckon", "(III)I"⟩, 41), (⟨"FewKeysModel", "bound", "(I)I"⟩, 41), (⟨"FewKeysModel", "isNumber", "(I)Z"⟩, 41), (⟨"FewKeysModel", "layFewest", "(I)V"⟩, 41), (⟨"FewKeysModel", "stateNow", "()I"⟩, 41)]
theorem lw_r3 : ∀ q ∈ lw_privs_3, lw_okq q := List.forall_mem_cons.mpr ⟨lw_p32, List.forall_mem_cons.mpr ⟨lw_p33, List.forall_mem_cons.mpr ⟨lw_p34, List.forall_mem_cons.mpr ⟨lw_p35, List.forall_mem_cons.mpr ⟨lw_p36, List.forall_mem_cons.mpr ⟨lw_p37, List.forall_mem_cons.mpr ⟨lw_p38, List.forall_mem_cons.mpr ⟨lw_p39, List.forall_mem_cons.mpr ⟨lw_p40, List.forall_mem_cons.mpr ⟨lw_p41, List.forall_mem_cons.mpr ⟨lw_p42, List.forall_mem_cons.mpr ⟨lw_p43, List.forall_mem_cons.mpr ⟨lw_p44, List.forall_mem_cons.mpr ⟨lw_p45, List.forall_mem_cons.mpr ⟨lw_p46, List.forall_mem_cons.mpr ⟨lw_p47, fun _ h => absurd h List.not_mem_nil⟩⟩⟩⟩⟩⟩⟩⟩⟩⟩⟩⟩⟩⟩⟩⟩
theorem lw_p48 : lw_okq (⟨"FewKeysModel", "states", "()I"⟩, 41) := ⟨⟨by decide +kernel, by decide +kernel⟩, List.mem_of_getElem? (i := 934) (by decide +kernel), List.mem_of_getElem? (i := 1190) (by decide +kernel), List.mem_of_getElem? (i := 1191) (by decide +kernel)⟩
theorem lw_p49 : lw_okq (⟨"FewKeysModel", "shownIn", "(I)I"⟩, 41) := ⟨⟨by decide +kernel, by decide +kernel⟩, List.mem_of_getElem? (i := 934) (by decide +kernel), List.mem_of_getElem? (i := 1194) (by decide +kernel), List.mem_of_getElem? (i := 1195) (by decide +kernel)⟩
theorem lw_p50 : lw_okq (⟨"FewKeysModel", "behind", "(II)I"⟩, 41) := ⟨⟨by decide +kernel, by decide +kernel⟩, List.mem_of_getElem? (i := 934) (by decide +kernel), List.mem_of_getElem? (i := 1198) (by decide +kernel), List.mem_of_getElem? (i := 1199) (by decide +kernel)⟩
theorem lw_p51 : lw_okq (⟨"FewKeysModel", "setState", "(I)V"⟩, 41) := ⟨⟨by decide +kernel, by decide +kernel⟩, List.mem_of_getElem? (i := 934) (by decide +kernel), List.mem_of_getElem? (i := 1202) (by decide +kernel), List.mem_of_getElem? (i := 1203) (by decide +kernel)⟩
theorem lw_p52 : lw_okq (⟨"FewKeysModel", "leastOf", "(I)I"⟩, 41) := ⟨⟨by decide +kernel, by decide +kernel⟩, List.mem_of_getElem? (i := 934) (by decide +kernel), List.mem_of_getElem? (i := 1214) (by decide +kernel), List.mem_of_getElem? (i := 1215) (by decide +kernel)⟩
theorem lw_p53 : lw_okq (⟨"FewKeysModel", "putIn", "(I)V"⟩, 41) := ⟨⟨by decide +kernel, by decide +kernel⟩, List.mem_of_getElem? (i := 934) (by decide +kernel), List.mem_of_getElem? (i := 1218) (by decide +kernel), List.mem_of_getElem? (i := 1219) (by decide +kernel)⟩
theorem lw_p54 : lw_okq (⟨"FewKeysModel", "takeOut", "(I)V"⟩, 41) := ⟨⟨by decide +kernel, by decide +kernel⟩, List.mem_of_getElem? (i := 934) (by decide +kernel), List.mem_of_getElem? (i := 1222) (by decide +kernel), List.mem_of_getElem? (i := 1223) (by decide +kernel)⟩
theorem lw_p55 : lw_okq (⟨"FewKeysModel", "allFewest", "(I)I"⟩, 41) := ⟨⟨by decide +kernel, by decide +kernel⟩, List.mem_of_getElem? (i := 934) (by decide +kernel), List.mem_of_getElem? (i := 1251) (by decide +kernel), List.mem_of_getElem? (i := 1252) (by decide +kernel)⟩
theorem lw_p56 : lw_okq (⟨"FewKeysModel", "listOf", "()I"⟩, 41) := ⟨⟨by decide +kernel, by decide +kernel⟩, List.mem_of_getElem? (i := 934) (by decide +kernel), List.mem_of_getElem? (i := 1259) (by decide +kernel), List.mem_of_getElem? (i := 1260) (by decide +kernel)⟩
theorem lw_p57 : lw_okq (⟨"FewKeysModel", "goOn", "(II)I"⟩, 41) := ⟨⟨by decide +kernel, by decide +kernel⟩, List.mem_of_getElem? (i := 934) (by decide +kernel), List.mem_of_getElem? (i := 1263) (by decide +kernel), List.mem_of_getElem? (i := 1264) (by decide +kernel)⟩
theorem lw_p58 : lw_okq (⟨"FewKeysModel", "insert", "(III)V"⟩, 41) := ⟨⟨by decide +kernel, by decide +kernel⟩, List.mem_of_getElem? (i := 934) (by decide +kernel), List.mem_of_getElem? (i := 1267) (by decide +kernel), List.mem_of_getElem? (i := 1268) (by decide +kernel)⟩
theorem lw_p59 : lw_okq (⟨"FewKeysModel", "rowsTo", "(III)I"⟩, 41) := ⟨⟨by decide +kernel, by decide +kernel⟩, List.mem_of_getElem? (i := 934) (by decide +kernel), List.mem_of_getElem? (i := 1279) (by decide +kernel), List.mem_of_getElem? (i := 1280) (by decide +kernel)⟩
theorem lw_p60 : lw_okq (⟨"FewKeysModel", "tells", "(IIII)Z"⟩, 41) := ⟨⟨by decide +kernel, by decide +kernel⟩, List.mem_of_getElem? (i := 934) (by decide +kernel), List.mem_of_getElem? (i := 1290) (by decide +kernel), List.mem_of_getElem? (i := 1291) (by decide +kernel)⟩
theorem lw_p61 : lw_okq (⟨"FewKeysModel", "shownBy", "(III)J"⟩, 41) := ⟨⟨by decide +kernel, by decide +kernel⟩, List.mem_of_getElem? (i := 934) (by decide +kernel), List.mem_of_getElem? (i := 1297) (by decide +kernel), List.mem_of_getElem? (i := 1298) (by decide +kernel)⟩
theorem lw_p62 : lw_okq (⟨"FewKeysModel", "layGame", "(II)V"⟩, 41) := ⟨⟨by decide +kernel, by decide +kernel⟩, List.mem_of_getElem? (i := 934) (by decide +kernel), List.mem_of_getElem? (i := 1306) (by decide +kernel), List.mem_of_getElem? (i := 1307) (by decide +kernel)⟩
theorem lw_p63 : lw_okq (⟨"FewKeysModel", "worth", "(II)I"⟩, 41) := ⟨⟨by decide +kernel, by decide +kernel⟩, List.mem_of_getElem? (i := 934) (by decide +kernel), List.mem_of_getElem? (i := 1310) (by decide +kernel), List.mem_of_getElem? (i := 1311) (by decide +kernel)⟩
def lw_privs_4 : List (MethodName × Nat) := [(⟨"FewKeysModel", "states", "()I"⟩, 41), (⟨"FewKeysModel", "shownIn", "(I)I"⟩, 41), (⟨"FewKeysModel", "behind", "(II)I"⟩, 41), (⟨"FewKeysModel", "setState", "(I)V"⟩, 41), (⟨"FewKeysModel", "leastOf", "(I)I"⟩, 41), (⟨"FewKeysModel", "putIn", "(I)V"⟩, 41), (⟨"FewKeysModel", "takeOut", "(I)V"⟩, 41), (⟨"FewKeysModel", "allFewest", "(I)I"⟩, 41), (⟨"FewKeysModel", "listOf", "()I"⟩, 41), (⟨"FewKeysModel", "goOn", "(II)I"⟩, 41), (⟨"FewKeysModel", "insert", "(III)V"⟩, 41), (⟨"FewKeysModel", "rowsTo", "(III)I"⟩, 41), (⟨"FewKeysModel", "tells", "(IIII)Z"⟩, 41), (⟨"FewKeysModel", "shownBy", "(III)J"⟩, 41), (⟨"FewKeysModel", "layGame", "(II)V"⟩, 41), (⟨"FewKeysModel", "worth", "(II)I"⟩, 41)]
theorem lw_r4 : ∀ q ∈ lw_privs_4, lw_okq q := List.forall_mem_cons.mpr ⟨lw_p48, List.forall_mem_cons.mpr ⟨lw_p49, List.forall_mem_cons.mpr ⟨lw_p50, List.forall_mem_cons.mpr ⟨lw_p51, List.forall_mem_cons.mpr ⟨lw_p52, List.forall_mem_cons.mpr ⟨lw_p53, List.forall_mem_cons.mpr ⟨lw_p54, List.forall_mem_cons.mpr ⟨lw_p55, List.forall_mem_cons.mpr ⟨lw_p56, List.forall_mem_cons.mpr ⟨lw_p57, List.forall_mem_cons.mpr ⟨lw_p58, List.forall_mem_cons.mpr ⟨lw_p59, List.forall_mem_cons.mpr ⟨lw_p60, List.forall_mem_cons.mpr ⟨lw_p61, List.forall_mem_cons.mpr ⟨lw_p62, List.forall_mem_cons.mpr ⟨lw_p63, fun _ h => absurd h List.not_mem_nil⟩⟩⟩⟩⟩⟩⟩⟩⟩⟩⟩⟩⟩⟩⟩⟩
def lw_privs : List (MethodName × Nat) := lw_privs_1 ++ (lw_privs_2 ++ (lw_privs_3 ++ (lw_privs_4)))
def lw_tbl : List Cond := k2_sels lw_privs ++ tables_1
theorem lw_privs_ok : ∀ q ∈ lw_privs, lw_okq q := by
  show ∀ q ∈ lw_privs_1 ++ (lw_privs_2 ++ (lw_privs_3 ++ (lw_privs_4))), lw_okq q
  exact List.forall_mem_append.mpr ⟨lw_r1, List.forall_mem_append.mpr ⟨lw_r2, List.forall_mem_append.mpr ⟨lw_r3, lw_r4⟩⟩⟩
end
section
def RX0 : String := "FewKeys$Book"
def TX0 : u_T := fun k => match k with
  | 0 => ("FewKeys$Book", "keys", "[I", true)
  | 1 => ("FewKeys$Book", "shown", "[I", true)
  | _ => ("FewKeys$Book", "size", "I", false)
def tyX0 : Nat → FieldType := fun k => match k with
  | 0 => .array .int
  | 1 => .array .int
  | _ => .int
abbrev wsX00 : List Cond := u_ws RX0 TX0 3
theorem nmX0 : ∀ a, a < 3 → ∀ b, b < 3 → a ≠ b → (TX0 a).2.1 ≠ (TX0 b).2.1 := by decide +kernel
theorem tyX0_ok : ∀ k, k < 3 → parseFieldDescriptor (TX0 k).2.2.1 = some (tyX0 k) := by decide +kernel
abbrev cX0_init : ByteArray := prog_2_method_1_code
def yX0_init : MethodName := ⟨RX0, "<init>", "()V"⟩
abbrev cX0_append : ByteArray := prog_2_method_2_code
def yX0_append : MethodName := ⟨RX0, "append", "(II)V"⟩
abbrev cX0_firstWrong : ByteArray := prog_2_method_3_code
def yX0_firstWrong : MethodName := ⟨RX0, "firstWrong", "(LFewKeys$Reckoner;I)I"⟩
def RX1 : String := "FewKeys$Chain"
def TX1 : u_T := fun k => match k with
  | 0 => ("FewKeys$Chain", "rows", "LFewKeys$Rows;", true)
  | 1 => ("FewKeys$Chain", "startStates", "[I", false)
  | 2 => ("FewKeys$Chain", "startSteps", "[I", false)
  | 3 => ("FewKeys$Chain", "starts", "I", false)
  | 4 => ("FewKeys$Chain", "endStates", "[I", false)
  | 5 => ("FewKeys$Chain", "endSteps", "[I", false)
  | _ => ("FewKeys$Chain", "ends", "I", false)
def tyX1 : Nat → FieldType := fun k => match k with
  | 0 => .object "FewKeys$Rows"
  | 1 => .array .int
  | 2 => .array .int
  | 3 => .int
  | 4 => .array .int
  | 5 => .array .int
  | _ => .int
abbrev wsX10 : List Cond := u_ws RX1 TX1 7
theorem nmX1 : ∀ a, a < 7 → ∀ b, b < 7 → a ≠ b → (TX1 a).2.1 ≠ (TX1 b).2.1 := by decide +kernel
theorem tyX1_ok : ∀ k, k < 7 → parseFieldDescriptor (TX1 k).2.2.1 = some (tyX1 k) := by decide +kernel
abbrev cX1_init : ByteArray := prog_3_method_1_code
def yX1_init : MethodName := ⟨RX1, "<init>", "(LFewKeys$Rows;)V"⟩
abbrev cX1_fewestForAll : ByteArray := prog_3_method_2_code
def yX1_fewestForAll : MethodName := ⟨RX1, "fewestForAll", "(LFewKeys$Reckoner;LFewKeys$Present;)I"⟩
abbrev cX1_endsBecomeStarts : ByteArray := prog_3_method_3_code
def yX1_endsBecomeStarts : MethodName := ⟨RX1, "endsBecomeStarts", "()V"⟩
abbrev cX1_spread : ByteArray := prog_3_method_4_code
def yX1_spread : MethodName := ⟨RX1, "spread", "(LFewKeys$Reckoner;IZ)V"⟩
abbrev cX1_meet : ByteArray := prog_3_method_5_code
def yX1_meet : MethodName := ⟨RX1, "meet", "(III)V"⟩
def RX2 : String := "FewKeys$Costs"
def TX2 : u_T := fun k => match k with
  | 0 => ("FewKeys$Costs", "rows", "LFewKeys$Rows;", true)
  | 1 => ("FewKeys$Costs", "least", "[I", true)
  | 2 => ("FewKeys$Costs", "turnOf", "[I", true)
  | 3 => ("FewKeys$Costs", "missing", "I", false)
  | 4 => ("FewKeys$Costs", "cheapest", "I", false)
  | _ => ("FewKeys$Costs", "known", "Z", false)
def tyX2 : Nat → FieldType := fun k => match k with
  | 0 => .object "FewKeys$Rows"
  | 1 => .array .int
  | 2 => .array .int
  | 3 => .int
  | 4 => .int
  | _ => .boolean
abbrev wsX20 : List Cond := u_ws RX2 TX2 6
theorem nmX2 : ∀ a, a < 6 → ∀ b, b < 6 → a ≠ b → (TX2 a).2.1 ≠ (TX2 b).2.1 := by decide +kernel
theorem tyX2_ok : ∀ k, k < 6 → parseFieldDescriptor (TX2 k).2.2.1 = some (tyX2 k) := by decide +kernel
abbrev cX2_init : ByteArray := prog_4_method_1_code
def yX2_init : MethodName := ⟨RX2, "<init>", "(LFewKeys$Rows;)V"⟩
abbrev cX2_learn : ByteArray := prog_4_method_2_code
def yX2_learn : MethodName := ⟨RX2, "learn", "(LFewKeys$Reckoner;I)V"⟩
abbrev cX2_cheapestKey : ByteArray := prog_4_method_3_code
def yX2_cheapestKey : MethodName := ⟨RX2, "cheapestKey", "(LFewKeys$Reckoner;)I"⟩
abbrev cX2_meet : ByteArray := prog_4_method_4_code
def yX2_meet : MethodName := ⟨RX2, "meet", "(II)V"⟩
def RX3 : String := "FewKeys$Game"
def TX3 : u_T := fun k => match k with
  | 0 => ("FewKeys$Game", "winner", "I", false)
  | _ => ("FewKeys$Game", "bestKey", "I", false)
def tyX3 : Nat → FieldType := fun k => match k with
  | 0 => .int
  | _ => .int
abbrev wsX30 : List Cond := u_ws RX3 TX3 2
theorem nmX3 : ∀ a, a < 2 → ∀ b, b < 2 → a ≠ b → (TX3 a).2.1 ≠ (TX3 b).2.1 := by decide +kernel
theorem tyX3_ok : ∀ k, k < 2 → parseFieldDescriptor (TX3 k).2.2.1 = some (tyX3 k) := by decide +kernel
abbrev cX3_init : ByteArray := prog_5_method_1_code
def yX3_init : MethodName := ⟨RX3, "<init>", "()V"⟩
abbrev cX3_play : ByteArray := prog_5_method_2_code
def yX3_play : MethodName := ⟨RX3, "play", "(LFewKeys$Reckoner;III)V"⟩
abbrev cX3_worth : ByteArray := prog_5_method_3_code
def yX3_worth : MethodName := ⟨RX3, "worth", "(LFewKeys$Reckoner;III)I"⟩
abbrev cX3_worthOfKey : ByteArray := prog_5_method_4_code
def yX3_worthOfKey : MethodName := ⟨RX3, "worthOfKey", "(LFewKeys$Reckoner;IIII)I"⟩
def RX4 : String := "FewKeys$Past"
def TX4 : u_T := fun k => match k with
  | 0 => ("FewKeys$Past", "rows", "LFewKeys$Rows;", true)
  | 1 => ("FewKeys$Past", "total", "I", false)
  | _ => ("FewKeys$Past", "common", "I", false)
def tyX4 : Nat → FieldType := fun k => match k with
  | 0 => .object "FewKeys$Rows"
  | 1 => .int
  | _ => .int
abbrev wsX40 : List Cond := u_ws RX4 TX4 3
theorem nmX4 : ∀ a, a < 3 → ∀ b, b < 3 → a ≠ b → (TX4 a).2.1 ≠ (TX4 b).2.1 := by decide +kernel
theorem tyX4_ok : ∀ k, k < 3 → parseFieldDescriptor (TX4 k).2.2.1 = some (tyX4 k) := by decide +kernel
abbrev cX4_init : ByteArray := prog_6_method_1_code
def yX4_init : MethodName := ⟨RX4, "<init>", "(LFewKeys$Rows;)V"⟩
abbrev cX4_count : ByteArray := prog_6_method_2_code
def yX4_count : MethodName := ⟨RX4, "count", "(LFewKeys$Reckoner;III)V"⟩
abbrev cX4_goOn : ByteArray := prog_6_method_3_code
def yX4_goOn : MethodName := ⟨RX4, "goOn", "(LFewKeys$Reckoner;[I[I)V"⟩
abbrev cX4_join : ByteArray := prog_6_method_4_code
def yX4_join : MethodName := ⟨RX4, "join", "([III)V"⟩
abbrev cX4_countLast : ByteArray := prog_6_method_5_code
def yX4_countLast : MethodName := ⟨RX4, "countLast", "(LFewKeys$Reckoner;[II)V"⟩
def RX5 : String := "FewKeys$Present"
def TX5 : u_T := fun k => match k with
  | 0 => ("FewKeys$Present", "state", "I", false)
  | 1 => ("FewKeys$Present", "spent", "I", false)
  | 2 => ("FewKeys$Present", "seed", "I", false)
  | 3 => ("FewKeys$Present", "targetCount", "I", false)
  | 4 => ("FewKeys$Present", "kept", "Z", false)
  | _ => ("FewKeys$Present", "targets", "[I", true)
def tyX5 : Nat → FieldType := fun k => match k with
  | 0 => .int
  | 1 => .int
  | 2 => .int
  | 3 => .int
  | 4 => .boolean
  | _ => .array .int
abbrev wsX50 : List Cond := u_ws RX5 TX5 6
theorem nmX5 : ∀ a, a < 6 → ∀ b, b < 6 → a ≠ b → (TX5 a).2.1 ≠ (TX5 b).2.1 := by decide +kernel
theorem tyX5_ok : ∀ k, k < 6 → parseFieldDescriptor (TX5 k).2.2.1 = some (tyX5 k) := by decide +kernel
abbrev cX5_init : ByteArray := prog_7_method_1_code
def yX5_init : MethodName := ⟨RX5, "<init>", "()V"⟩
abbrev cX5_become : ByteArray := prog_7_method_2_code
def yX5_become : MethodName := ⟨RX5, "become", "(LFewKeys$Present;)V"⟩
abbrev cX5_strikeOnce : ByteArray := prog_7_method_3_code
def yX5_strikeOnce : MethodName := ⟨RX5, "strikeOnce", "(LFewKeys$Reckoner;I)V"⟩
abbrev cX5_draw : ByteArray := prog_7_method_4_code
def yX5_draw : MethodName := ⟨RX5, "draw", "(I)I"⟩
def RX6 : String := "FewKeys$Reckoner"
def TX6 : u_T := fun k => match k with
  | 0 => ("FewKeys$Reckoner", "dialKind", "I", false)
  | 1 => ("FewKeys$Reckoner", "base", "I", false)
  | 2 => ("FewKeys$Reckoner", "figures", "I", false)
  | 3 => ("FewKeys$Reckoner", "numbers", "I", false)
  | 4 => ("FewKeys$Reckoner", "keys", "I", false)
  | 5 => ("FewKeys$Reckoner", "kind", "[I", true)
  | 6 => ("FewKeys$Reckoner", "cost", "[I", true)
  | 7 => ("FewKeys$Reckoner", "first", "[I", true)
  | _ => ("FewKeys$Reckoner", "second", "[I", true)
def tyX6 : Nat → FieldType := fun k => match k with
  | 0 => .int
  | 1 => .int
  | 2 => .int
  | 3 => .int
  | 4 => .int
  | 5 => .array .int
  | 6 => .array .int
  | 7 => .array .int
  | _ => .array .int
abbrev wsX60 : List Cond := u_ws RX6 TX6 9
theorem nmX6 : ∀ a, a < 9 → ∀ b, b < 9 → a ≠ b → (TX6 a).2.1 ≠ (TX6 b).2.1 := by decide +kernel
theorem tyX6_ok : ∀ k, k < 9 → parseFieldDescriptor (TX6 k).2.2.1 = some (tyX6 k) := by decide +kernel
abbrev cX6_init : ByteArray := prog_8_method_1_code
def yX6_init : MethodName := ⟨RX6, "<init>", "()V"⟩
abbrev cX6_empty : ByteArray := prog_8_method_2_code
def yX6_empty : MethodName := ⟨RX6, "empty", "()V"⟩
abbrev cX6_setDial : ByteArray := prog_8_method_3_code
def yX6_setDial : MethodName := ⟨RX6, "setDial", "(IIII)V"⟩
abbrev cX6_addKey : ByteArray := prog_8_method_4_code
def yX6_addKey : MethodName := ⟨RX6, "addKey", "(IIII)V"⟩
abbrev cX6_dropKey : ByteArray := prog_8_method_5_code
def yX6_dropKey : MethodName := ⟨RX6, "dropKey", "()V"⟩
abbrev cX6_hasKey : ByteArray := prog_8_method_6_code
def yX6_hasKey : MethodName := ⟨RX6, "hasKey", "(II)Z"⟩
abbrev cX6_afterStroke : ByteArray := prog_8_method_7_code
def yX6_afterStroke : MethodName := ⟨RX6, "afterStroke", "(II)I"⟩
abbrev cX6_afterFigure : ByteArray := prog_8_method_8_code
def yX6_afterFigure : MethodName := ⟨RX6, "afterFigure", "(II)I"⟩
abbrev cX6_afterSign : ByteArray := prog_8_method_9_code
def yX6_afterSign : MethodName := ⟨RX6, "afterSign", "(II)I"⟩
abbrev cX6_reckon : ByteArray := prog_8_method_10_code
def yX6_reckon : MethodName := ⟨RX6, "reckon", "(III)I"⟩
abbrev cX6_places : ByteArray := prog_8_method_11_code
def yX6_places : MethodName := ⟨RX6, "places", "()I"⟩
abbrev cX6_placeOf : ByteArray := prog_8_method_12_code
def yX6_placeOf : MethodName := ⟨RX6, "placeOf", "(I)I"⟩
abbrev cX6_stateAt : ByteArray := prog_8_method_13_code
def yX6_stateAt : MethodName := ⟨RX6, "stateAt", "(I)I"⟩
def RX7 : String := "FewKeys$Rows"
def TX7 : u_T := fun k => match k with
  | 0 => ("FewKeys$Rows", "seen", "[J", true)
  | 1 => ("FewKeys$Rows", "states", "[I", true)
  | 2 => ("FewKeys$Rows", "notes", "[I", true)
  | 3 => ("FewKeys$Rows", "count", "I", false)
  | _ => ("FewKeys$Rows", "holds", "I", false)
def tyX7 : Nat → FieldType := fun k => match k with
  | 0 => .array .long
  | 1 => .array .int
  | 2 => .array .int
  | 3 => .int
  | _ => .int
abbrev wsX70 : List Cond := u_ws RX7 TX7 5
theorem nmX7 : ∀ a, a < 5 → ∀ b, b < 5 → a ≠ b → (TX7 a).2.1 ≠ (TX7 b).2.1 := by decide +kernel
theorem tyX7_ok : ∀ k, k < 5 → parseFieldDescriptor (TX7 k).2.2.1 = some (tyX7 k) := by decide +kernel
abbrev cX7_init : ByteArray := prog_9_method_1_code
def yX7_init : MethodName := ⟨RX7, "<init>", "()V"⟩
abbrev cX7_empty : ByteArray := prog_9_method_2_code
def yX7_empty : MethodName := ⟨RX7, "empty", "()V"⟩
abbrev cX7_mark : ByteArray := prog_9_method_3_code
def yX7_mark : MethodName := ⟨RX7, "mark", "(I)Z"⟩
abbrev cX7_append : ByteArray := prog_9_method_4_code
def yX7_append : MethodName := ⟨RX7, "append", "(II)V"⟩
def RX8 : String := "FewKeys$Steps"
def TX8 : u_T := fun k => match k with
  | 0 => ("FewKeys$Steps", "rows", "LFewKeys$Rows;", true)
  | 1 => ("FewKeys$Steps", "fewestTo", "[I", true)
  | 2 => ("FewKeys$Steps", "metAt", "[I", true)
  | 3 => ("FewKeys$Steps", "wanted", "[I", true)
  | 4 => ("FewKeys$Steps", "missing", "I", false)
  | 5 => ("FewKeys$Steps", "known", "Z", false)
  | 6 => ("FewKeys$Steps", "moreKnown", "Z", false)
  | 7 => ("FewKeys$Steps", "moreKind", "I", false)
  | 8 => ("FewKeys$Steps", "moreFigure", "I", false)
  | _ => ("FewKeys$Steps", "moreTogether", "I", false)
def tyX8 : Nat → FieldType := fun k => match k with
  | 0 => .object "FewKeys$Rows"
  | 1 => .array .int
  | 2 => .array .int
  | 3 => .array .int
  | 4 => .int
  | 5 => .boolean
  | 6 => .boolean
  | 7 => .int
  | 8 => .int
  | _ => .int
abbrev wsX80 : List Cond := u_ws RX8 TX8 10
theorem nmX8 : ∀ a, a < 10 → ∀ b, b < 10 → a ≠ b → (TX8 a).2.1 ≠ (TX8 b).2.1 := by decide +kernel
theorem tyX8_ok : ∀ k, k < 10 → parseFieldDescriptor (TX8 k).2.2.1 = some (tyX8 k) := by decide +kernel
abbrev cX8_init : ByteArray := prog_10_method_1_code
def yX8_init : MethodName := ⟨RX8, "<init>", "(LFewKeys$Rows;)V"⟩
abbrev cX8_forgetSteps : ByteArray := prog_10_method_2_code
def yX8_forgetSteps : MethodName := ⟨RX8, "forgetSteps", "()V"⟩
abbrev cX8_forgetMore : ByteArray := prog_10_method_3_code
def yX8_forgetMore : MethodName := ⟨RX8, "forgetMore", "()V"⟩
abbrev cX8_learn : ByteArray := prog_10_method_4_code
def yX8_learn : MethodName := ⟨RX8, "learn", "(LFewKeys$Reckoner;I)V"⟩
abbrev cX8_learnWays : ByteArray := prog_10_method_5_code
def yX8_learnWays : MethodName := ⟨RX8, "learnWays", "(LFewKeys$Reckoner;I)V"⟩
abbrev cX8_to : ByteArray := prog_10_method_6_code
def yX8_to : MethodName := ⟨RX8, "to", "(I)I"⟩
abbrev cX8_keyOfWay : ByteArray := prog_10_method_7_code
def yX8_keyOfWay : MethodName := ⟨RX8, "keyOfWay", "(II)I"⟩
abbrev cX8_spread : ByteArray := prog_10_method_8_code
def yX8_spread : MethodName := ⟨RX8, "spread", "(LFewKeys$Reckoner;I)V"⟩
abbrev cX8_meet : ByteArray := prog_10_method_9_code
def yX8_meet : MethodName := ⟨RX8, "meet", "(III)V"⟩
abbrev cX8_learnMore : ByteArray := prog_10_method_10_code
def yX8_learnMore : MethodName := ⟨RX8, "learnMore", "(LFewKeys$Reckoner;LFewKeys$Present;)V"⟩
abbrev cX8_together : ByteArray := prog_10_method_11_code
def yX8_together : MethodName := ⟨RX8, "together", "(LFewKeys$Reckoner;LFewKeys$Present;)I"⟩
def RX9 : String := "FewKeys$Text"
def TX9 : u_T := fun k => match k with
  | 0 => ("FewKeys$Text", "bytes", "[I", true)
  | 1 => ("FewKeys$Text", "size", "I", false)
  | 2 => ("FewKeys$Text", "faultKind", "I", false)
  | 3 => ("FewKeys$Text", "faultAt", "I", false)
  | 4 => ("FewKeys$Text", "next", "I", false)
  | 5 => ("FewKeys$Text", "wordAt", "I", false)
  | 6 => ("FewKeys$Text", "numberAt", "I", false)
  | _ => ("FewKeys$Text", "number", "I", false)
def tyX9 : Nat → FieldType := fun k => match k with
  | 0 => .array .int
  | 1 => .int
  | 2 => .int
  | 3 => .int
  | 4 => .int
  | 5 => .int
  | 6 => .int
  | _ => .int
abbrev wsX90 : List Cond := u_ws RX9 TX9 8
theorem nmX9 : ∀ a, a < 8 → ∀ b, b < 8 → a ≠ b → (TX9 a).2.1 ≠ (TX9 b).2.1 := by decide +kernel
theorem tyX9_ok : ∀ k, k < 8 → parseFieldDescriptor (TX9 k).2.2.1 = some (tyX9 k) := by decide +kernel
abbrev cX9_init : ByteArray := prog_11_method_1_code
def yX9_init : MethodName := ⟨RX9, "<init>", "()V"⟩
abbrev cX9_append : ByteArray := prog_11_method_2_code
def yX9_append : MethodName := ⟨RX9, "append", "(I)V"⟩
abbrev cX9_read : ByteArray := prog_11_method_3_code
def yX9_read : MethodName := ⟨RX9, "read", "(LFewKeys$Reckoner;)Z"⟩
abbrev cX9_readDial : ByteArray := prog_11_method_4_code
def yX9_readDial : MethodName := ⟨RX9, "readDial", "(LFewKeys$Reckoner;)Z"⟩
abbrev cX9_readKey : ByteArray := prog_11_method_5_code
def yX9_readKey : MethodName := ⟨RX9, "readKey", "(LFewKeys$Reckoner;)Z"⟩
abbrev cX9_refuse : ByteArray := prog_11_method_6_code
def yX9_refuse : MethodName := ⟨RX9, "refuse", "(II)Z"⟩
abbrev cX9_skipBlanks : ByteArray := prog_11_method_7_code
def yX9_skipBlanks : MethodName := ⟨RX9, "skipBlanks", "()V"⟩
abbrev cX9_isBetween : ByteArray := prog_11_method_8_code
def yX9_isBetween : MethodName := ⟨RX9, "isBetween", "(III)Z"⟩
abbrev cX9_takeWord : ByteArray := prog_11_method_9_code
def yX9_takeWord : MethodName := ⟨RX9, "takeWord", "()V"⟩
abbrev cX9_wordIs : ByteArray := prog_11_method_10_code
def yX9_wordIs : MethodName := ⟨RX9, "wordIs", "(Ljava/lang/String;)Z"⟩
abbrev cX9_kindOfWord : ByteArray := prog_11_method_11_code
def yX9_kindOfWord : MethodName := ⟨RX9, "kindOfWord", "()I"⟩
abbrev cX9_takeNumber : ByteArray := prog_11_method_12_code
def yX9_takeNumber : MethodName := ⟨RX9, "takeNumber", "(II)Z"⟩
abbrev cX9_takeEnd : ByteArray := prog_11_method_13_code
def yX9_takeEnd : MethodName := ⟨RX9, "takeEnd", "()Z"⟩
def RX10 : String := "FewKeys$Trials"
def TX10 : u_T := fun k => match k with
  | 0 => ("FewKeys$Trials", "states", "[I", true)
  | 1 => ("FewKeys$Trials", "readings", "[I", true)
  | 2 => ("FewKeys$Trials", "maybe", "[I", true)
  | _ => ("FewKeys$Trials", "count", "I", false)
def tyX10 : Nat → FieldType := fun k => match k with
  | 0 => .array .int
  | 1 => .array .int
  | 2 => .array .int
  | _ => .int
abbrev wsX100 : List Cond := u_ws RX10 TX10 4
theorem nmX10 : ∀ a, a < 4 → ∀ b, b < 4 → a ≠ b → (TX10 a).2.1 ≠ (TX10 b).2.1 := by decide +kernel
theorem tyX10_ok : ∀ k, k < 4 → parseFieldDescriptor (TX10 k).2.2.1 = some (tyX10 k) := by decide +kernel
abbrev cX10_init : ByteArray := prog_12_method_1_code
def yX10_init : MethodName := ⟨RX10, "<init>", "()V"⟩
abbrev cX10_fewestToTell : ByteArray := prog_12_method_2_code
def yX10_fewestToTell : MethodName := ⟨RX10, "fewestToTell", "(LFewKeys$Reckoner;II)I"⟩
abbrev cX10_canTell : ByteArray := prog_12_method_3_code
def yX10_canTell : MethodName := ⟨RX10, "canTell", "(LFewKeys$Trials;LFewKeys$Reckoner;II)Z"⟩
abbrev cX10_strokeAll : ByteArray := prog_12_method_4_code
def yX10_strokeAll : MethodName := ⟨RX10, "strokeAll", "(LFewKeys$Reckoner;II)V"⟩
abbrev cX10_allDiffer : ByteArray := prog_12_method_5_code
def yX10_allDiffer : MethodName := ⟨RX10, "allDiffer", "(I)Z"⟩
def RX11 : String := "FewKeys"
def TX11 : u_T := fun k => match k with
  | 0 => ("FewKeys", "text", "LFewKeys$Text;", true)
  | 1 => ("FewKeys", "reckoner", "LFewKeys$Reckoner;", false)
  | 2 => ("FewKeys", "draft", "LFewKeys$Reckoner;", false)
  | 3 => ("FewKeys", "present", "LFewKeys$Present;", true)
  | 4 => ("FewKeys", "imageZero", "LFewKeys$Present;", true)
  | 5 => ("FewKeys", "imageOne", "LFewKeys$Present;", true)
  | 6 => ("FewKeys", "book", "LFewKeys$Book;", true)
  | 7 => ("FewKeys", "rows", "LFewKeys$Rows;", true)
  | 8 => ("FewKeys", "steps", "LFewKeys$Steps;", true)
  | 9 => ("FewKeys", "costs", "LFewKeys$Costs;", true)
  | 10 => ("FewKeys", "chain", "LFewKeys$Chain;", true)
  | 11 => ("FewKeys", "past", "LFewKeys$Past;", true)
  | 12 => ("FewKeys", "trials", "LFewKeys$Trials;", true)
  | _ => ("FewKeys", "contest", "LFewKeys$Game;", true)
def tyX11 : Nat → FieldType := fun k => match k with
  | 0 => .object "FewKeys$Text"
  | 1 => .object "FewKeys$Reckoner"
  | 2 => .object "FewKeys$Reckoner"
  | 3 => .object "FewKeys$Present"
  | 4 => .object "FewKeys$Present"
  | 5 => .object "FewKeys$Present"
  | 6 => .object "FewKeys$Book"
  | 7 => .object "FewKeys$Rows"
  | 8 => .object "FewKeys$Steps"
  | 9 => .object "FewKeys$Costs"
  | 10 => .object "FewKeys$Chain"
  | 11 => .object "FewKeys$Past"
  | 12 => .object "FewKeys$Trials"
  | _ => .object "FewKeys$Game"
abbrev wsX110 : List Cond := u_ws RX11 TX11 14
theorem nmX11 : ∀ a, a < 14 → ∀ b, b < 14 → a ≠ b → (TX11 a).2.1 ≠ (TX11 b).2.1 := by decide +kernel
theorem tyX11_ok : ∀ k, k < 14 → parseFieldDescriptor (TX11 k).2.2.1 = some (tyX11 k) := by decide +kernel
abbrev cX11_init : ByteArray := prog_1_method_1_code
def yX11_init : MethodName := ⟨RX11, "<init>", "()V"⟩
abbrev cX11_feed : ByteArray := prog_1_method_2_code
def yX11_feed : MethodName := ⟨RX11, "feed", "(IJ)I"⟩
abbrev cX11_reckoner : ByteArray := prog_1_method_3_code
def yX11_reckoner : MethodName := ⟨RX11, "reckoner", "()I"⟩
abbrev cX11_fault : ByteArray := prog_1_method_4_code
def yX11_fault : MethodName := ⟨RX11, "fault", "()I"⟩
abbrev cX11_told : ByteArray := prog_1_method_5_code
def yX11_told : MethodName := ⟨RX11, "told", "(I)I"⟩
abbrev cX11_key : ByteArray := prog_1_method_6_code
def yX11_key : MethodName := ⟨RX11, "key", "(II)I"⟩
abbrev cX11_strike : ByteArray := prog_1_method_7_code
def yX11_strike : MethodName := ⟨RX11, "strike", "(I)I"⟩
abbrev cX11_begin : ByteArray := prog_1_method_8_code
def yX11_begin : MethodName := ⟨RX11, "begin", "()I"⟩
abbrev cX11_fewest : ByteArray := prog_1_method_9_code
def yX11_fewest : MethodName := ⟨RX11, "fewest", "(I)I"⟩
abbrev cX11_way : ByteArray := prog_1_method_10_code
def yX11_way : MethodName := ⟨RX11, "way", "(II)I"⟩
abbrev cX11_least : ByteArray := prog_1_method_11_code
def yX11_least : MethodName := ⟨RX11, "least", "(I)I"⟩
abbrev cX11_never : ByteArray := prog_1_method_12_code
def yX11_never : MethodName := ⟨RX11, "never", "(I)I"⟩
abbrev cX11_farthest : ByteArray := prog_1_method_13_code
def yX11_farthest : MethodName := ⟨RX11, "farthest", "(I)I"⟩
abbrev cX11_target : ByteArray := prog_1_method_14_code
def yX11_target : MethodName := ⟨RX11, "target", "(I)I"⟩
abbrev cX11_targetAt : ByteArray := prog_1_method_15_code
def yX11_targetAt : MethodName := ⟨RX11, "targetAt", "(I)I"⟩
abbrev cX11_forget : ByteArray := prog_1_method_16_code
def yX11_forget : MethodName := ⟨RX11, "forget", "()I"⟩
abbrev cX11_more : ByteArray := prog_1_method_17_code
def yX11_more : MethodName := ⟨RX11, "more", "(I)I"⟩
abbrev cX11_list : ByteArray := prog_1_method_18_code
def yX11_list : MethodName := ⟨RX11, "list", "()I"⟩
abbrev cX11_quick : ByteArray := prog_1_method_19_code
def yX11_quick : MethodName := ⟨RX11, "quick", "(II)I"⟩
abbrev cX11_isQuicker : ByteArray := prog_1_method_20_code
def yX11_isQuicker : MethodName := ⟨RX11, "isQuicker", "(III)Z"⟩
abbrev cX11_struck : ByteArray := prog_1_method_21_code
def yX11_struck : MethodName := ⟨RX11, "struck", "(III)I"⟩
abbrev cX11_lost : ByteArray := prog_1_method_22_code
def yX11_lost : MethodName := ⟨RX11, "lost", "(I)I"⟩
abbrev cX11_game : ByteArray := prog_1_method_23_code
def yX11_game : MethodName := ⟨RX11, "game", "(III)I"⟩
abbrev cX11_write : ByteArray := prog_1_method_24_code
def yX11_write : MethodName := ⟨RX11, "write", "(II)I"⟩
abbrev cX11_tear : ByteArray := prog_1_method_25_code
def yX11_tear : MethodName := ⟨RX11, "tear", "()I"⟩
abbrev cX11_judge : ByteArray := prog_1_method_26_code
def yX11_judge : MethodName := ⟨RX11, "judge", "()I"⟩
abbrev cX11_drift : ByteArray := prog_1_method_27_code
def yX11_drift : MethodName := ⟨RX11, "drift", "(I)I"⟩
abbrev cX11_seed : ByteArray := prog_1_method_28_code
def yX11_seed : MethodName := ⟨RX11, "seed", "(I)I"⟩
abbrev cX11_keep : ByteArray := prog_1_method_29_code
def yX11_keep : MethodName := ⟨RX11, "keep", "(I)I"⟩
abbrev cX11_goBack : ByteArray := prog_1_method_30_code
def yX11_goBack : MethodName := ⟨RX11, "goBack", "(I)I"⟩
abbrev cX11_isKey : ByteArray := prog_1_method_31_code
def yX11_isKey : MethodName := ⟨RX11, "isKey", "(I)Z"⟩
abbrev cX11_isOnDial : ByteArray := prog_1_method_32_code
def yX11_isOnDial : MethodName := ⟨RX11, "isOnDial", "(I)Z"⟩
abbrev cX11_imageAt : ByteArray := prog_1_method_33_code
def yX11_imageAt : MethodName := ⟨RX11, "imageAt", "(I)LFewKeys$Present;"⟩
abbrev cX11_stateChanged : ByteArray := prog_1_method_34_code
def yX11_stateChanged : MethodName := ⟨RX11, "stateChanged", "()V"⟩
abbrev cX11_shownIn : ByteArray := prog_1_method_35_code
def yX11_shownIn : MethodName := ⟨RX11, "shownIn", "(I)I"⟩
abbrev cX11_heldIn : ByteArray := prog_1_method_36_code
def yX11_heldIn : MethodName := ⟨RX11, "heldIn", "(I)I"⟩
abbrev cX11_signIn : ByteArray := prog_1_method_37_code
def yX11_signIn : MethodName := ⟨RX11, "signIn", "(I)I"⟩
abbrev cX11_isTyped : ByteArray := prog_1_method_38_code
def yX11_isTyped : MethodName := ⟨RX11, "isTyped", "(I)Z"⟩
abbrev cX11_at : ByteArray := prog_1_method_39_code
def yX11_at : MethodName := ⟨RX11, "at", "([II)I"⟩
abbrev cX11_put : ByteArray := prog_1_method_40_code
def yX11_put : MethodName := ⟨RX11, "put", "([III)V"⟩
def RX12 : String := "FewKeysModel"
def TX12 : u_T := fun k => match k with
  | 0 => ("FewKeysModel", "kind", "I", false)
  | 1 => ("FewKeysModel", "base", "I", false)
  | 2 => ("FewKeysModel", "figures", "I", false)
  | 3 => ("FewKeysModel", "numbers", "I", false)
  | 4 => ("FewKeysModel", "keys", "I", false)
  | 5 => ("FewKeysModel", "key", "[I", true)
  | 6 => ("FewKeysModel", "bytes", "I", false)
  | 7 => ("FewKeysModel", "text", "[I", true)
  | 8 => ("FewKeysModel", "position", "I", false)
  | 9 => ("FewKeysModel", "tokenAt", "I", false)
  | 10 => ("FewKeysModel", "token", "J", false)
  | 11 => ("FewKeysModel", "digits", "I", false)
  | 12 => ("FewKeysModel", "number", "I", false)
  | 13 => ("FewKeysModel", "faultAt", "I", false)
  | 14 => ("FewKeysModel", "faultIs", "I", false)
  | 15 => ("FewKeysModel", "readKind", "I", false)
  | 16 => ("FewKeysModel", "readBase", "I", false)
  | 17 => ("FewKeysModel", "readFigures", "I", false)
  | 18 => ("FewKeysModel", "readNumbers", "I", false)
  | 19 => ("FewKeysModel", "readKeys", "I", false)
  | 20 => ("FewKeysModel", "read", "[I", true)
  | 21 => ("FewKeysModel", "shown", "I", false)
  | 22 => ("FewKeysModel", "waits", "I", false)
  | 23 => ("FewKeysModel", "held", "I", false)
  | 24 => ("FewKeysModel", "isTyped", "Z", false)
  | 25 => ("FewKeysModel", "spent", "I", false)
  | 26 => ("FewKeysModel", "seed", "J", false)
  | 27 => ("FewKeysModel", "targets", "I", false)
  | 28 => ("FewKeysModel", "target", "[I", true)
  | 29 => ("FewKeysModel", "entries", "I", false)
  | 30 => ("FewKeysModel", "book", "[I", true)
  | 31 => ("FewKeysModel", "image", "[I", true)
  | 32 => ("FewKeysModel", "imageSeed", "[J", true)
  | 33 => ("FewKeysModel", "isKept", "[Z", true)
  | 34 => ("FewKeysModel", "far", "[I", true)
  | 35 => ("FewKeysModel", "line", "[I", true)
  | 36 => ("FewKeysModel", "by", "[I", true)
  | 37 => ("FewKeysModel", "more", "[I", true)
  | 38 => ("FewKeysModel", "fewest", "[I", true)
  | 39 => ("FewKeysModel", "first", "[I", true)
  | _ => ("FewKeysModel", "heads", "[I", true)
def tyX12 : Nat → FieldType := fun k => match k with
  | 0 => .int
  | 1 => .int
  | 2 => .int
  | 3 => .int
  | 4 => .int
  | 5 => .array .int
  | 6 => .int
  | 7 => .array .int
  | 8 => .int
  | 9 => .int
  | 10 => .long
  | 11 => .int
  | 12 => .int
  | 13 => .int
  | 14 => .int
  | 15 => .int
  | 16 => .int
  | 17 => .int
  | 18 => .int
  | 19 => .int
  | 20 => .array .int
  | 21 => .int
  | 22 => .int
  | 23 => .int
  | 24 => .boolean
  | 25 => .int
  | 26 => .long
  | 27 => .int
  | 28 => .array .int
  | 29 => .int
  | 30 => .array .int
  | 31 => .array .int
  | 32 => .array .long
  | 33 => .array .boolean
  | 34 => .array .int
  | 35 => .array .int
  | 36 => .array .int
  | 37 => .array .int
  | 38 => .array .int
  | 39 => .array .int
  | _ => .array .int
abbrev wsX120 : List Cond := u_ws RX12 TX12 41
theorem nmX12 : ∀ a, a < 41 → ∀ b, b < 41 → a ≠ b → (TX12 a).2.1 ≠ (TX12 b).2.1 := by decide +kernel
theorem tyX12_ok : ∀ k, k < 41 → parseFieldDescriptor (TX12 k).2.2.1 = some (tyX12 k) := by decide +kernel
abbrev cX12_init : ByteArray := prog_14_method_1_code
def yX12_init : MethodName := ⟨RX12, "<init>", "()V"⟩
abbrev cX12_in : ByteArray := prog_14_method_2_code
def yX12_in : MethodName := ⟨RX12, "in", "(III)Z"⟩
abbrev cX12_has : ByteArray := prog_14_method_3_code
def yX12_has : MethodName := ⟨RX12, "has", "(II)Z"⟩
abbrev cX12_isNumber : ByteArray := prog_14_method_4_code
def yX12_isNumber : MethodName := ⟨RX12, "isNumber", "(I)Z"⟩
abbrev cX12_feed : ByteArray := prog_14_method_5_code
def yX12_feed : MethodName := ⟨RX12, "feed", "(IJ)I"⟩
abbrev cX12_nextToken : ByteArray := prog_14_method_6_code
def yX12_nextToken : MethodName := ⟨RX12, "nextToken", "()V"⟩
abbrev cX12_fails : ByteArray := prog_14_method_7_code
def yX12_fails : MethodName := ⟨RX12, "fails", "(I)Z"⟩
abbrev cX12_isNext : ByteArray := prog_14_method_8_code
def yX12_isNext : MethodName := ⟨RX12, "isNext", "(III)Z"⟩
abbrev cX12_ends : ByteArray := prog_14_method_9_code
def yX12_ends : MethodName := ⟨RX12, "ends", "()Z"⟩
abbrev cX12_isDial : ByteArray := prog_14_method_10_code
def yX12_isDial : MethodName := ⟨RX12, "isDial", "()Z"⟩
abbrev cX12_isCost : ByteArray := prog_14_method_11_code
def yX12_isCost : MethodName := ⟨RX12, "isCost", "(I)Z"⟩
abbrev cX12_isNow : ByteArray := prog_14_method_12_code
def yX12_isNow : MethodName := ⟨RX12, "isNow", "(I)Z"⟩
abbrev cX12_isKey : ByteArray := prog_14_method_13_code
def yX12_isKey : MethodName := ⟨RX12, "isKey", "()Z"⟩
abbrev cX12_isRead : ByteArray := prog_14_method_14_code
def yX12_isRead : MethodName := ⟨RX12, "isRead", "()Z"⟩
abbrev cX12_reckoner : ByteArray := prog_14_method_15_code
def yX12_reckoner : MethodName := ⟨RX12, "reckoner", "()I"⟩
abbrev cX12_fault : ByteArray := prog_14_method_16_code
def yX12_fault : MethodName := ⟨RX12, "fault", "()I"⟩
abbrev cX12_told : ByteArray := prog_14_method_17_code
def yX12_told : MethodName := ⟨RX12, "told", "(I)I"⟩
abbrev cX12_key : ByteArray := prog_14_method_18_code
def yX12_key : MethodName := ⟨RX12, "key", "(II)I"⟩
abbrev cX12_start : ByteArray := prog_14_method_19_code
def yX12_start : MethodName := ⟨RX12, "start", "()V"⟩
abbrev cX12_bound : ByteArray := prog_14_method_20_code
def yX12_bound : MethodName := ⟨RX12, "bound", "(I)I"⟩
abbrev cX12_reckon : ByteArray := prog_14_method_21_code
def yX12_reckon : MethodName := ⟨RX12, "reckon", "(III)I"⟩
abbrev cX12_figure : ByteArray := prog_14_method_22_code
def yX12_figure : MethodName := ⟨RX12, "figure", "(I)V"⟩
abbrev cX12_doStroke : ByteArray := prog_14_method_23_code
def yX12_doStroke : MethodName := ⟨RX12, "doStroke", "(I)V"⟩
abbrev cX12_stateNow : ByteArray := prog_14_method_24_code
def yX12_stateNow : MethodName := ⟨RX12, "stateNow", "()I"⟩
abbrev cX12_setState : ByteArray := prog_14_method_25_code
def yX12_setState : MethodName := ⟨RX12, "setState", "(I)V"⟩
abbrev cX12_shownIn : ByteArray := prog_14_method_26_code
def yX12_shownIn : MethodName := ⟨RX12, "shownIn", "(I)I"⟩
abbrev cX12_states : ByteArray := prog_14_method_27_code
def yX12_states : MethodName := ⟨RX12, "states", "()I"⟩
abbrev cX12_behind : ByteArray := prog_14_method_28_code
def yX12_behind : MethodName := ⟨RX12, "behind", "(II)I"⟩
abbrev cX12_strike : ByteArray := prog_14_method_29_code
def yX12_strike : MethodName := ⟨RX12, "strike", "(I)I"⟩
abbrev cX12_begin : ByteArray := prog_14_method_30_code
def yX12_begin : MethodName := ⟨RX12, "begin", "()I"⟩
abbrev cX12_layFewest : ByteArray := prog_14_method_31_code
def yX12_layFewest : MethodName := ⟨RX12, "layFewest", "(I)V"⟩
abbrev cX12_fewest : ByteArray := prog_14_method_32_code
def yX12_fewest : MethodName := ⟨RX12, "fewest", "(I)I"⟩
abbrev cX12_way : ByteArray := prog_14_method_33_code
def yX12_way : MethodName := ⟨RX12, "way", "(II)I"⟩
abbrev cX12_putIn : ByteArray := prog_14_method_34_code
def yX12_putIn : MethodName := ⟨RX12, "putIn", "(I)V"⟩
abbrev cX12_takeOut : ByteArray := prog_14_method_35_code
def yX12_takeOut : MethodName := ⟨RX12, "takeOut", "(I)V"⟩
abbrev cX12_leastOf : ByteArray := prog_14_method_36_code
def yX12_leastOf : MethodName := ⟨RX12, "leastOf", "(I)I"⟩
abbrev cX12_least : ByteArray := prog_14_method_37_code
def yX12_least : MethodName := ⟨RX12, "least", "(I)I"⟩
abbrev cX12_never : ByteArray := prog_14_method_38_code
def yX12_never : MethodName := ⟨RX12, "never", "(I)I"⟩
abbrev cX12_farthest : ByteArray := prog_14_method_39_code
def yX12_farthest : MethodName := ⟨RX12, "farthest", "(I)I"⟩
abbrev cX12_target : ByteArray := prog_14_method_40_code
def yX12_target : MethodName := ⟨RX12, "target", "(I)I"⟩
abbrev cX12_targetAt : ByteArray := prog_14_method_41_code
def yX12_targetAt : MethodName := ⟨RX12, "targetAt", "(I)I"⟩
abbrev cX12_forget : ByteArray := prog_14_method_42_code
def yX12_forget : MethodName := ⟨RX12, "forget", "()I"⟩
abbrev cX12_allFewest : ByteArray := prog_14_method_43_code
def yX12_allFewest : MethodName := ⟨RX12, "allFewest", "(I)I"⟩
abbrev cX12_more : ByteArray := prog_14_method_44_code
def yX12_more : MethodName := ⟨RX12, "more", "(I)I"⟩
abbrev cX12_goOn : ByteArray := prog_14_method_45_code
def yX12_goOn : MethodName := ⟨RX12, "goOn", "(II)I"⟩
abbrev cX12_listOf : ByteArray := prog_14_method_46_code
def yX12_listOf : MethodName := ⟨RX12, "listOf", "()I"⟩
abbrev cX12_insert : ByteArray := prog_14_method_47_code
def yX12_insert : MethodName := ⟨RX12, "insert", "(III)V"⟩
abbrev cX12_list : ByteArray := prog_14_method_48_code
def yX12_list : MethodName := ⟨RX12, "list", "()I"⟩
abbrev cX12_quick : ByteArray := prog_14_method_49_code
def yX12_quick : MethodName := ⟨RX12, "quick", "(II)I"⟩
abbrev cX12_rowsTo : ByteArray := prog_14_method_50_code
def yX12_rowsTo : MethodName := ⟨RX12, "rowsTo", "(III)I"⟩
abbrev cX12_struck : ByteArray := prog_14_method_51_code
def yX12_struck : MethodName := ⟨RX12, "struck", "(III)I"⟩
abbrev cX12_bits : ByteArray := prog_14_method_52_code
def yX12_bits : MethodName := ⟨RX12, "bits", "(I)I"⟩
abbrev cX12_shownBy : ByteArray := prog_14_method_53_code
def yX12_shownBy : MethodName := ⟨RX12, "shownBy", "(III)J"⟩
abbrev cX12_tells : ByteArray := prog_14_method_54_code
def yX12_tells : MethodName := ⟨RX12, "tells", "(IIII)Z"⟩
abbrev cX12_lost : ByteArray := prog_14_method_55_code
def yX12_lost : MethodName := ⟨RX12, "lost", "(I)I"⟩
abbrev cX12_layGame : ByteArray := prog_14_method_56_code
def yX12_layGame : MethodName := ⟨RX12, "layGame", "(II)V"⟩
abbrev cX12_worth : ByteArray := prog_14_method_57_code
def yX12_worth : MethodName := ⟨RX12, "worth", "(II)I"⟩
abbrev cX12_game : ByteArray := prog_14_method_58_code
def yX12_game : MethodName := ⟨RX12, "game", "(III)I"⟩
abbrev cX12_write : ByteArray := prog_14_method_59_code
def yX12_write : MethodName := ⟨RX12, "write", "(II)I"⟩
abbrev cX12_tear : ByteArray := prog_14_method_60_code
def yX12_tear : MethodName := ⟨RX12, "tear", "()I"⟩
abbrev cX12_judge : ByteArray := prog_14_method_61_code
def yX12_judge : MethodName := ⟨RX12, "judge", "()I"⟩
abbrev cX12_drift : ByteArray := prog_14_method_62_code
def yX12_drift : MethodName := ⟨RX12, "drift", "(I)I"⟩
abbrev cX12_seed : ByteArray := prog_14_method_63_code
def yX12_seed : MethodName := ⟨RX12, "seed", "(I)I"⟩
abbrev cX12_keep : ByteArray := prog_14_method_64_code
def yX12_keep : MethodName := ⟨RX12, "keep", "(I)I"⟩
abbrev cX12_goBack : ByteArray := prog_14_method_65_code
def yX12_goBack : MethodName := ⟨RX12, "goBack", "(I)I"⟩
def RJx145de : String := "java/io/Serializable"
def TJx145de : u_T := fun k => match k with
  | _ => ("", "", "", false)
def tyJx145de : Nat → FieldType := fun k => match k with
  | _ => .int
abbrev wsJx145de0 : List Cond := u_ws RJx145de TJx145de 0
theorem nmJx145de : ∀ a, a < 0 → ∀ b, b < 0 → a ≠ b → (TJx145de a).2.1 ≠ (TJx145de b).2.1 := by decide +kernel
theorem tyJx145de_ok : ∀ k, k < 0 → parseFieldDescriptor (TJx145de k).2.2.1 = some (tyJx145de k) := by decide +kernel
def RJx9f9b0 : String := "java/lang/CharSequence"
def TJx9f9b0 : u_T := fun k => match k with
  | _ => ("", "", "", false)
def tyJx9f9b0 : Nat → FieldType := fun k => match k with
  | _ => .int
abbrev wsJx9f9b00 : List Cond := u_ws RJx9f9b0 TJx9f9b0 0
theorem nmJx9f9b0 : ∀ a, a < 0 → ∀ b, b < 0 → a ≠ b → (TJx9f9b0 a).2.1 ≠ (TJx9f9b0 b).2.1 := by decide +kernel
theorem tyJx9f9b0_ok : ∀ k, k < 0 → parseFieldDescriptor (TJx9f9b0 k).2.2.1 = some (tyJx9f9b0 k) := by decide +kernel
def RJxb160c : String := "java/lang/Comparable"
def TJxb160c : u_T := fun k => match k with
  | _ => ("", "", "", false)
def tyJxb160c : Nat → FieldType := fun k => match k with
  | _ => .int
abbrev wsJxb160c0 : List Cond := u_ws RJxb160c TJxb160c 0
theorem nmJxb160c : ∀ a, a < 0 → ∀ b, b < 0 → a ≠ b → (TJxb160c a).2.1 ≠ (TJxb160c b).2.1 := by decide +kernel
theorem tyJxb160c_ok : ∀ k, k < 0 → parseFieldDescriptor (TJxb160c k).2.2.1 = some (tyJxb160c k) := by decide +kernel
def RJ6 : String := "java/lang/Integer"
def TJ6 : u_T := fun k => match k with
  | _ => ("", "", "", false)
def tyJ6 : Nat → FieldType := fun k => match k with
  | _ => .int
abbrev wsJ60 : List Cond := u_ws RJ6 TJ6 0
theorem nmJ6 : ∀ a, a < 0 → ∀ b, b < 0 → a ≠ b → (TJ6 a).2.1 ≠ (TJ6 b).2.1 := by decide +kernel
theorem tyJ6_ok : ∀ k, k < 0 → parseFieldDescriptor (TJ6 k).2.2.1 = some (tyJ6 k) := by decide +kernel
abbrev cJ6_bitCount_0f7a4 : ByteArray := prog_15_method_49_code
def yJ6_bitCount_0f7a4 : MethodName := ⟨RJ6, "bitCount", "(I)I"⟩
def RJ9 : String := "java/lang/Math"
def TJ9 : u_T := fun k => match k with
  | _ => ("", "", "", false)
def tyJ9 : Nat → FieldType := fun k => match k with
  | _ => .int
abbrev wsJ90 : List Cond := u_ws RJ9 TJ9 0
theorem nmJ9 : ∀ a, a < 0 → ∀ b, b < 0 → a ≠ b → (TJ9 a).2.1 ≠ (TJ9 b).2.1 := by decide +kernel
theorem tyJ9_ok : ∀ k, k < 0 → parseFieldDescriptor (TJ9 k).2.2.1 = some (tyJ9 k) := by decide +kernel
abbrev cJ9_floorMod_7cf53 : ByteArray := prog_16_method_50_code
def yJ9_floorMod_7cf53 : MethodName := ⟨RJ9, "floorMod", "(II)I"⟩
abbrev cJ9_abs_0f7a4 : ByteArray := prog_16_method_59_code
def yJ9_abs_0f7a4 : MethodName := ⟨RJ9, "abs", "(I)I"⟩
abbrev cJ9_max_7cf53 : ByteArray := prog_16_method_65_code
def yJ9_max_7cf53 : MethodName := ⟨RJ9, "max", "(II)I"⟩
abbrev cJ9_min_7cf53 : ByteArray := prog_16_method_69_code
def yJ9_min_7cf53 : MethodName := ⟨RJ9, "min", "(II)I"⟩
def RJ0 : String := "java/lang/String"
def TJ0 : u_T := fun k => match k with
  | _ => ("", "", "", false)
def tyJ0 : Nat → FieldType := fun k => match k with
  | _ => .int
abbrev wsJ00 : List Cond := u_ws RJ0 TJ0 0
theorem nmJ0 : ∀ a, a < 0 → ∀ b, b < 0 → a ≠ b → (TJ0 a).2.1 ≠ (TJ0 b).2.1 := by decide +kernel
theorem tyJ0_ok : ∀ k, k < 0 → parseFieldDescriptor (TJ0 k).2.2.1 = some (tyJ0 k) := by decide +kernel
abbrev cJ0_length_8abf5 : ByteArray := prog_17_method_54_code
def yJ0_length_8abf5 : MethodName := ⟨RJ0, "length", "()I"⟩
abbrev cJ0_charAt_5068e : ByteArray := prog_17_method_56_code
def yJ0_charAt_5068e : MethodName := ⟨RJ0, "charAt", "(I)C"⟩
abbrev cJ0_coder_7d493 : ByteArray := prog_17_method_152_code
def yJ0_coder_7d493 : MethodName := ⟨RJ0, "coder", "()B"⟩
abbrev cJ0_isLatin1_aae02 : ByteArray := prog_17_method_154_code
def yJ0_isLatin1_aae02 : MethodName := ⟨RJ0, "isLatin1", "()Z"⟩
abbrev cJ0_checkIndex_df160 : ByteArray := prog_17_method_155_code
def yJ0_checkIndex_df160 : MethodName := ⟨RJ0, "checkIndex", "(II)V"⟩
def RJ1 : String := "java/lang/StringLatin1"
def TJ1 : u_T := fun k => match k with
  | _ => ("", "", "", false)
def tyJ1 : Nat → FieldType := fun k => match k with
  | _ => .int
abbrev wsJ10 : List Cond := u_ws RJ1 TJ1 0
theorem nmJ1 : ∀ a, a < 0 → ∀ b, b < 0 → a ≠ b → (TJ1 a).2.1 ≠ (TJ1 b).2.1 := by decide +kernel
theorem tyJ1_ok : ∀ k, k < 0 → parseFieldDescriptor (TJ1 k).2.2.1 = some (tyJ1 k) := by decide +kernel
abbrev cJ1_charAt_3b067 : ByteArray := prog_18_method_2_code
def yJ1_charAt_3b067 : MethodName := ⟨RJ1, "charAt", "([BI)C"⟩
def RJ2 : String := "java/lang/StringUTF16"
def TJ2 : u_T := fun k => match k with
  | _ => ("", "", "", false)
def tyJ2 : Nat → FieldType := fun k => match k with
  | _ => .int
abbrev wsJ20 : List Cond := u_ws RJ2 TJ2 0
theorem nmJ2 : ∀ a, a < 0 → ∀ b, b < 0 → a ≠ b → (TJ2 a).2.1 ≠ (TJ2 b).2.1 := by decide +kernel
theorem tyJ2_ok : ∀ k, k < 0 → parseFieldDescriptor (TJ2 k).2.2.1 = some (tyJ2 k) := by decide +kernel
abbrev cJ2_getChar_3b067 : ByteArray := prog_19_method_5_code
def yJ2_getChar_3b067 : MethodName := ⟨RJ2, "getChar", "([BI)C"⟩
abbrev cJ2_length_9d52b : ByteArray := prog_19_method_6_code
def yJ2_length_9d52b : MethodName := ⟨RJ2, "length", "([B)I"⟩
abbrev cJ2_charAt_3b067 : ByteArray := prog_19_method_83_code
def yJ2_charAt_3b067 : MethodName := ⟨RJ2, "charAt", "([BI)C"⟩
abbrev cJ2_checkIndex_2214a : ByteArray := prog_19_method_91_code
def yJ2_checkIndex_2214a : MethodName := ⟨RJ2, "checkIndex", "(I[B)V"⟩
def RJxfd54e : String := "java/lang/constant/Constable"
def TJxfd54e : u_T := fun k => match k with
  | _ => ("", "", "", false)
def tyJxfd54e : Nat → FieldType := fun k => match k with
  | _ => .int
abbrev wsJxfd54e0 : List Cond := u_ws RJxfd54e TJxfd54e 0
theorem nmJxfd54e : ∀ a, a < 0 → ∀ b, b < 0 → a ≠ b → (TJxfd54e a).2.1 ≠ (TJxfd54e b).2.1 := by decide +kernel
theorem tyJxfd54e_ok : ∀ k, k < 0 → parseFieldDescriptor (TJxfd54e k).2.2.1 = some (tyJxfd54e k) := by decide +kernel
def RJx3cf43 : String := "java/lang/constant/ConstantDesc"
def TJx3cf43 : u_T := fun k => match k with
  | _ => ("", "", "", false)
def tyJx3cf43 : Nat → FieldType := fun k => match k with
  | _ => .int
abbrev wsJx3cf430 : List Cond := u_ws RJx3cf43 TJx3cf43 0
theorem nmJx3cf43 : ∀ a, a < 0 → ∀ b, b < 0 → a ≠ b → (TJx3cf43 a).2.1 ≠ (TJx3cf43 b).2.1 := by decide +kernel
theorem tyJx3cf43_ok : ∀ k, k < 0 → parseFieldDescriptor (TJx3cf43 k).2.2.1 = some (tyJx3cf43 k) := by decide +kernel
def RJ7 : String := "java/util/Arrays"
def TJ7 : u_T := fun k => match k with
  | _ => ("", "", "", false)
def tyJ7 : Nat → FieldType := fun k => match k with
  | _ => .int
abbrev wsJ70 : List Cond := u_ws RJ7 TJ7 0
theorem nmJ7 : ∀ a, a < 0 → ∀ b, b < 0 → a ≠ b → (TJ7 a).2.1 ≠ (TJ7 b).2.1 := by decide +kernel
theorem tyJ7_ok : ∀ k, k < 0 → parseFieldDescriptor (TJ7 k).2.2.1 = some (tyJ7 k) := by decide +kernel
abbrev cJ7_fill_d0a16 : ByteArray := prog_20_method_101_code
def yJ7_fill_d0a16 : MethodName := ⟨RJ7, "fill", "([JJ)V"⟩
abbrev cJ7_fill_53178 : ByteArray := prog_20_method_103_code
def yJ7_fill_53178 : MethodName := ⟨RJ7, "fill", "([II)V"⟩
def RJ3 : String := "jdk/internal/util/Preconditions"
def TJ3 : u_T := fun k => match k with
  | _ => ("", "", "", false)
def tyJ3 : Nat → FieldType := fun k => match k with
  | _ => .int
abbrev wsJ30 : List Cond := u_ws RJ3 TJ3 0
theorem nmJ3 : ∀ a, a < 0 → ∀ b, b < 0 → a ≠ b → (TJ3 a).2.1 ≠ (TJ3 b).2.1 := by decide +kernel
theorem tyJ3_ok : ∀ k, k < 0 → parseFieldDescriptor (TJ3 k).2.2.1 = some (tyJ3 k) := by decide +kernel
abbrev cJ3_checkIndex_8e157 : ByteArray := prog_21_method_11_code
def yJ3_checkIndex_8e157 : MethodName := ⟨RJ3, "checkIndex", "(IILjava/util/function/BiFunction;)I"⟩
def RL : String := "FewKeysLaw"
abbrev cL_law : ByteArray := code
def yL_law : MethodName := ⟨RL, "law", "([I)Z"⟩
-- methods: name, bytes, locals, answer
abbrev MI : Type := MethodName × ByteArray × Nat × Option FieldType
abbrev mX0_init : MI := (yX0_init, cX0_init, 1, none)
abbrev mX0_append : MI := (yX0_append, cX0_append, 3, none)
abbrev mX0_firstWrong : MI := (yX0_firstWrong, cX0_firstWrong, 5, some .int)
abbrev mX1_init : MI := (yX1_init, cX1_init, 2, none)
abbrev mX1_fewestForAll : MI := (yX1_fewestForAll, cX1_fewestForAll, 5, some .int)
abbrev mX1_endsBecomeStarts : MI := (yX1_endsBecomeStarts, cX1_endsBecomeStarts, 3, none)
abbrev mX1_spread : MI := (yX1_spread, cX1_spread, 11, none)
abbrev mX1_meet : MI := (yX1_meet, cX1_meet, 4, none)
abbrev mX2_init : MI := (yX2_init, cX2_init, 2, none)
abbrev mX2_learn : MI := (yX2_learn, cX2_learn, 6, none)
abbrev mX2_cheapestKey : MI := (yX2_cheapestKey, cX2_cheapestKey, 6, some .int)
abbrev mX2_meet : MI := (yX2_meet, cX2_meet, 3, none)
abbrev mX3_init : MI := (yX3_init, cX3_init, 1, none)
abbrev mX3_play : MI := (yX3_play, cX3_play, 7, none)
abbrev mX3_worth : MI := (yX3_worth, cX3_worth, 6, some .int)
abbrev mX3_worthOfKey : MI := (yX3_worthOfKey, cX3_worthOfKey, 6, some .int)
abbrev mX4_init : MI := (yX4_init, cX4_init, 2, none)
abbrev mX4_count : MI := (yX4_count, cX4_count, 9, none)
abbrev mX4_goOn : MI := (yX4_goOn, cX4_goOn, 8, none)
abbrev mX4_join : MI := (yX4_join, cX4_join, 6, none)
abbrev mX4_countLast : MI := (yX4_countLast, cX4_countLast, 8, none)
abbrev mX5_init : MI := (yX5_init, cX5_init, 1, none)
abbrev mX5_become : MI := (yX5_become, cX5_become, 3, none)
abbrev mX5_strikeOnce : MI := (yX5_strikeOnce, cX5_strikeOnce, 3, none)
abbrev mX5_draw : MI := (yX5_draw, cX5_draw, 2, some .int)
abbrev mX6_init : MI := (yX6_init, cX6_init, 1, none)
abbrev mX6_empty : MI := (yX6_empty, cX6_empty, 1, none)
abbrev mX6_setDial : MI := (yX6_setDial, cX6_setDial, 5, none)
abbrev mX6_addKey : MI := (yX6_addKey, cX6_addKey, 5, none)
abbrev mX6_dropKey : MI := (yX6_dropKey, cX6_dropKey, 1, none)
abbrev mX6_hasKey : MI := (yX6_hasKey, cX6_hasKey, 4, some .boolean)
abbrev mX6_afterStroke : MI := (yX6_afterStroke, cX6_afterStroke, 3, some .int)
abbrev mX6_afterFigure : MI := (yX6_afterFigure, cX6_afterFigure, 4, some .int)
abbrev mX6_afterSign : MI := (yX6_afterSign, cX6_afterSign, 4, some .int)
abbrev mX6_reckon : MI := (yX6_reckon, cX6_reckon, 5, some .int)
abbrev mX6_places : MI := (yX6_places, cX6_places, 1, some .int)
abbrev mX6_placeOf : MI := (yX6_placeOf, cX6_placeOf, 4, some .int)
abbrev mX6_stateAt : MI := (yX6_stateAt, cX6_stateAt, 6, some .int)
abbrev mX7_init : MI := (yX7_init, cX7_init, 1, none)
abbrev mX7_empty : MI := (yX7_empty, cX7_empty, 1, none)
abbrev mX7_mark : MI := (yX7_mark, cX7_mark, 5, some .boolean)
abbrev mX7_append : MI := (yX7_append, cX7_append, 3, none)
abbrev mX8_init : MI := (yX8_init, cX8_init, 2, none)
abbrev mX8_forgetSteps : MI := (yX8_forgetSteps, cX8_forgetSteps, 1, none)
abbrev mX8_forgetMore : MI := (yX8_forgetMore, cX8_forgetMore, 1, none)
abbrev mX8_learn : MI := (yX8_learn, cX8_learn, 3, none)
abbrev mX8_learnWays : MI := (yX8_learnWays, cX8_learnWays, 3, none)
abbrev mX8_to : MI := (yX8_to, cX8_to, 2, some .int)
abbrev mX8_keyOfWay : MI := (yX8_keyOfWay, cX8_keyOfWay, 6, some .int)
abbrev mX8_spread : MI := (yX8_spread, cX8_spread, 8, none)
abbrev mX8_meet : MI := (yX8_meet, cX8_meet, 5, none)
abbrev mX8_learnMore : MI := (yX8_learnMore, cX8_learnMore, 8, none)
abbrev mX8_together : MI := (yX8_together, cX8_together, 6, some .int)
abbrev mX9_init : MI := (yX9_init, cX9_init, 1, none)
abbrev mX9_append : MI := (yX9_append, cX9_append, 2, none)
abbrev mX9_read : MI := (yX9_read, cX9_read, 3, some .boolean)
abbrev mX9_readDial : MI := (yX9_readDial, cX9_readDial, 7, some .boolean)
abbrev mX9_readKey : MI := (yX9_readKey, cX9_readKey, 5, some .boolean)
abbrev mX9_refuse : MI := (yX9_refuse, cX9_refuse, 3, some .boolean)
abbrev mX9_skipBlanks : MI := (yX9_skipBlanks, cX9_skipBlanks, 1, none)
abbrev mX9_isBetween : MI := (yX9_isBetween, cX9_isBetween, 4, some .boolean)
abbrev mX9_takeWord : MI := (yX9_takeWord, cX9_takeWord, 1, none)
abbrev mX9_wordIs : MI := (yX9_wordIs, cX9_wordIs, 3, some .boolean)
abbrev mX9_kindOfWord : MI := (yX9_kindOfWord, cX9_kindOfWord, 1, some .int)
abbrev mX9_takeNumber : MI := (yX9_takeNumber, cX9_takeNumber, 3, some .boolean)
abbrev mX9_takeEnd : MI := (yX9_takeEnd, cX9_takeEnd, 1, some .boolean)
abbrev mX10_init : MI := (yX10_init, cX10_init, 1, none)
abbrev mX10_fewestToTell : MI := (yX10_fewestToTell, cX10_fewestToTell, 5, some .int)
abbrev mX10_canTell : MI := (yX10_canTell, cX10_canTell, 5, some .boolean)
abbrev mX10_strokeAll : MI := (yX10_strokeAll, cX10_strokeAll, 9, none)
abbrev mX10_allDiffer : MI := (yX10_allDiffer, cX10_allDiffer, 5, some .boolean)
abbrev mX11_init : MI := (yX11_init, cX11_init, 1, none)
abbrev mX11_feed : MI := (yX11_feed, cX11_feed, 5, some .int)
abbrev mX11_reckoner : MI := (yX11_reckoner, cX11_reckoner, 3, some .int)
abbrev mX11_fault : MI := (yX11_fault, cX11_fault, 1, some .int)
abbrev mX11_told : MI := (yX11_told, cX11_told, 2, some .int)
abbrev mX11_key : MI := (yX11_key, cX11_key, 3, some .int)
abbrev mX11_strike : MI := (yX11_strike, cX11_strike, 2, some .int)
abbrev mX11_begin : MI := (yX11_begin, cX11_begin, 2, some .int)
abbrev mX11_fewest : MI := (yX11_fewest, cX11_fewest, 2, some .int)
abbrev mX11_way : MI := (yX11_way, cX11_way, 3, some .int)
abbrev mX11_least : MI := (yX11_least, cX11_least, 2, some .int)
abbrev mX11_never : MI := (yX11_never, cX11_never, 4, some .int)
abbrev mX11_farthest : MI := (yX11_farthest, cX11_farthest, 4, some .int)
abbrev mX11_target : MI := (yX11_target, cX11_target, 2, some .int)
abbrev mX11_targetAt : MI := (yX11_targetAt, cX11_targetAt, 2, some .int)
abbrev mX11_forget : MI := (yX11_forget, cX11_forget, 2, some .int)
abbrev mX11_more : MI := (yX11_more, cX11_more, 2, some .int)
abbrev mX11_list : MI := (yX11_list, cX11_list, 1, some .int)
abbrev mX11_quick : MI := (yX11_quick, cX11_quick, 5, some .int)
abbrev mX11_isQuicker : MI := (yX11_isQuicker, cX11_isQuicker, 4, some .boolean)
abbrev mX11_struck : MI := (yX11_struck, cX11_struck, 4, some .int)
abbrev mX11_lost : MI := (yX11_lost, cX11_lost, 2, some .int)
abbrev mX11_game : MI := (yX11_game, cX11_game, 4, some .int)
abbrev mX11_write : MI := (yX11_write, cX11_write, 3, some .int)
abbrev mX11_tear : MI := (yX11_tear, cX11_tear, 2, some .int)
abbrev mX11_judge : MI := (yX11_judge, cX11_judge, 1, some .int)
abbrev mX11_drift : MI := (yX11_drift, cX11_drift, 3, some .int)
abbrev mX11_seed : MI := (yX11_seed, cX11_seed, 3, some .int)
abbrev mX11_keep : MI := (yX11_keep, cX11_keep, 3, some .int)
abbrev mX11_goBack : MI := (yX11_goBack, cX11_goBack, 3, some .int)
abbrev mX11_isKey : MI := (yX11_isKey, cX11_isKey, 2, some .boolean)
abbrev mX11_isOnDial : MI := (yX11_isOnDial, cX11_isOnDial, 2, some .boolean)
abbrev mX11_imageAt : MI := (yX11_imageAt, cX11_imageAt, 2, some (.object "FewKeys$Present"))
abbrev mX11_stateChanged : MI := (yX11_stateChanged, cX11_stateChanged, 1, none)
abbrev mX11_shownIn : MI := (yX11_shownIn, cX11_shownIn, 1, some .int)
abbrev mX11_heldIn : MI := (yX11_heldIn, cX11_heldIn, 1, some .int)
abbrev mX11_signIn : MI := (yX11_signIn, cX11_signIn, 1, some .int)
abbrev mX11_isTyped : MI := (yX11_isTyped, cX11_isTyped, 1, some .boolean)
abbrev mX11_at : MI := (yX11_at, cX11_at, 2, some .int)
abbrev mX11_put : MI := (yX11_put, cX11_put, 3, none)
abbrev mX12_init : MI := (yX12_init, cX12_init, 1, none)
abbrev mX12_in : MI := (yX12_in, cX12_in, 3, some .boolean)
abbrev mX12_has : MI := (yX12_has, cX12_has, 2, some .boolean)
abbrev mX12_isNumber : MI := (yX12_isNumber, cX12_isNumber, 2, some .boolean)
abbrev mX12_feed : MI := (yX12_feed, cX12_feed, 5, some .int)
abbrev mX12_nextToken : MI := (yX12_nextToken, cX12_nextToken, 1, none)
abbrev mX12_fails : MI := (yX12_fails, cX12_fails, 2, some .boolean)
abbrev mX12_isNext : MI := (yX12_isNext, cX12_isNext, 4, some .boolean)
abbrev mX12_ends : MI := (yX12_ends, cX12_ends, 1, some .boolean)
abbrev mX12_isDial : MI := (yX12_isDial, cX12_isDial, 2, some .boolean)
abbrev mX12_isCost : MI := (yX12_isCost, cX12_isCost, 2, some .boolean)
abbrev mX12_isNow : MI := (yX12_isNow, cX12_isNow, 2, some .boolean)
abbrev mX12_isKey : MI := (yX12_isKey, cX12_isKey, 4, some .boolean)
abbrev mX12_isRead : MI := (yX12_isRead, cX12_isRead, 2, some .boolean)
abbrev mX12_reckoner : MI := (yX12_reckoner, cX12_reckoner, 3, some .int)
abbrev mX12_fault : MI := (yX12_fault, cX12_fault, 1, some .int)
abbrev mX12_told : MI := (yX12_told, cX12_told, 2, some .int)
abbrev mX12_key : MI := (yX12_key, cX12_key, 3, some .int)
abbrev mX12_start : MI := (yX12_start, cX12_start, 1, none)
abbrev mX12_bound : MI := (yX12_bound, cX12_bound, 2, some .int)
abbrev mX12_reckon : MI := (yX12_reckon, cX12_reckon, 4, some .int)
abbrev mX12_figure : MI := (yX12_figure, cX12_figure, 3, none)
abbrev mX12_doStroke : MI := (yX12_doStroke, cX12_doStroke, 3, none)
abbrev mX12_stateNow : MI := (yX12_stateNow, cX12_stateNow, 1, some .int)
abbrev mX12_setState : MI := (yX12_setState, cX12_setState, 2, none)
abbrev mX12_shownIn : MI := (yX12_shownIn, cX12_shownIn, 2, some .int)
abbrev mX12_states : MI := (yX12_states, cX12_states, 1, some .int)
abbrev mX12_behind : MI := (yX12_behind, cX12_behind, 3, some .int)
abbrev mX12_strike : MI := (yX12_strike, cX12_strike, 2, some .int)
abbrev mX12_begin : MI := (yX12_begin, cX12_begin, 2, some .int)
abbrev mX12_layFewest : MI := (yX12_layFewest, cX12_layFewest, 9, none)
abbrev mX12_fewest : MI := (yX12_fewest, cX12_fewest, 2, some .int)
abbrev mX12_way : MI := (yX12_way, cX12_way, 4, some .int)
abbrev mX12_putIn : MI := (yX12_putIn, cX12_putIn, 3, none)
abbrev mX12_takeOut : MI := (yX12_takeOut, cX12_takeOut, 2, none)
abbrev mX12_leastOf : MI := (yX12_leastOf, cX12_leastOf, 10, some .int)
abbrev mX12_least : MI := (yX12_least, cX12_least, 2, some .int)
abbrev mX12_never : MI := (yX12_never, cX12_never, 4, some .int)
abbrev mX12_farthest : MI := (yX12_farthest, cX12_farthest, 4, some .int)
abbrev mX12_target : MI := (yX12_target, cX12_target, 2, some .int)
abbrev mX12_targetAt : MI := (yX12_targetAt, cX12_targetAt, 2, some .int)
abbrev mX12_forget : MI := (yX12_forget, cX12_forget, 2, some .int)
abbrev mX12_allFewest : MI := (yX12_allFewest, cX12_allFewest, 4, some .int)
abbrev mX12_more : MI := (yX12_more, cX12_more, 7, some .int)
abbrev mX12_goOn : MI := (yX12_goOn, cX12_goOn, 4, some .int)
abbrev mX12_listOf : MI := (yX12_listOf, cX12_listOf, 13, some .int)
abbrev mX12_insert : MI := (yX12_insert, cX12_insert, 5, none)
abbrev mX12_list : MI := (yX12_list, cX12_list, 1, some .int)
abbrev mX12_quick : MI := (yX12_quick, cX12_quick, 8, some .int)
abbrev mX12_rowsTo : MI := (yX12_rowsTo, cX12_rowsTo, 8, some .int)
abbrev mX12_struck : MI := (yX12_struck, cX12_struck, 7, some .int)
abbrev mX12_bits : MI := (yX12_bits, cX12_bits, 3, some .int)
abbrev mX12_shownBy : MI := (yX12_shownBy, cX12_shownBy, 9, some .long)
abbrev mX12_tells : MI := (yX12_tells, cX12_tells, 10, some .boolean)
abbrev mX12_lost : MI := (yX12_lost, cX12_lost, 7, some .int)
abbrev mX12_layGame : MI := (yX12_layGame, cX12_layGame, 7, none)
abbrev mX12_worth : MI := (yX12_worth, cX12_worth, 3, some .int)
abbrev mX12_game : MI := (yX12_game, cX12_game, 8, some .int)
abbrev mX12_write : MI := (yX12_write, cX12_write, 3, some .int)
abbrev mX12_tear : MI := (yX12_tear, cX12_tear, 2, some .int)
abbrev mX12_judge : MI := (yX12_judge, cX12_judge, 4, some .int)
abbrev mX12_drift : MI := (yX12_drift, cX12_drift, 4, some .int)
abbrev mX12_seed : MI := (yX12_seed, cX12_seed, 3, some .int)
abbrev mX12_keep : MI := (yX12_keep, cX12_keep, 3, some .int)
abbrev mX12_goBack : MI := (yX12_goBack, cX12_goBack, 3, some .int)
abbrev mJ6_bitCount_0f7a4 : MI := (yJ6_bitCount_0f7a4, cJ6_bitCount_0f7a4, 1, some .int)
abbrev mJ9_floorMod_7cf53 : MI := (yJ9_floorMod_7cf53, cJ9_floorMod_7cf53, 3, some .int)
abbrev mJ9_abs_0f7a4 : MI := (yJ9_abs_0f7a4, cJ9_abs_0f7a4, 1, some .int)
abbrev mJ9_max_7cf53 : MI := (yJ9_max_7cf53, cJ9_max_7cf53, 2, some .int)
abbrev mJ9_min_7cf53 : MI := (yJ9_min_7cf53, cJ9_min_7cf53, 2, some .int)
abbrev mJ0_length_8abf5 : MI := (yJ0_length_8abf5, cJ0_length_8abf5, 1, some .int)
abbrev mJ0_charAt_5068e : MI := (yJ0_charAt_5068e, cJ0_charAt_5068e, 2, some .char)
abbrev mJ0_coder_7d493 : MI := (yJ0_coder_7d493, cJ0_coder_7d493, 1, some .byte)
abbrev mJ0_isLatin1_aae02 : MI := (yJ0_isLatin1_aae02, cJ0_isLatin1_aae02, 1, some .boolean)
abbrev mJ0_checkIndex_df160 : MI := (yJ0_checkIndex_df160, cJ0_checkIndex_df160, 2, none)
abbrev mJ1_charAt_3b067 : MI := (yJ1_charAt_3b067, cJ1_charAt_3b067, 2, some .char)
abbrev mJ2_getChar_3b067 : MI := (yJ2_getChar_3b067, cJ2_getChar_3b067, 2, some .char)
abbrev mJ2_length_9d52b : MI := (yJ2_length_9d52b, cJ2_length_9d52b, 1, some .int)
abbrev mJ2_charAt_3b067 : MI := (yJ2_charAt_3b067, cJ2_charAt_3b067, 2, some .char)
abbrev mJ2_checkIndex_2214a : MI := (yJ2_checkIndex_2214a, cJ2_checkIndex_2214a, 2, none)
abbrev mJ7_fill_d0a16 : MI := (yJ7_fill_d0a16, cJ7_fill_d0a16, 5, none)
abbrev mJ7_fill_53178 : MI := (yJ7_fill_53178, cJ7_fill_53178, 4, none)
abbrev mJ3_checkIndex_8e157 : MI := (yJ3_checkIndex_8e157, cJ3_checkIndex_8e157, 3, some .int)
abbrev classes : List vw_C := [(RX0, TX0, 3), (RX1, TX1, 7), (RX2, TX2, 6), (RX3, TX3, 2), (RX4, TX4, 3), (RX5, TX5, 6), (RX6, TX6, 9), (RX7, TX7, 5), (RX8, TX8, 10), (RX9, TX9, 8), (RX10, TX10, 4), (RX11, TX11, 14), (RX12, TX12, 41)]
def vm_N : Nat → Nat
  | 0 => 3
  | 1 => 7
  | 2 => 6
  | 3 => 2
  | 4 => 3
  | 5 => 6
  | 6 => 9
  | 7 => 5
  | 8 => 10
  | 9 => 8
  | 10 => 4
  | 11 => 14
  | 12 => 41
  | _ => 0
end
section
/-! ===== THE MACHINE SEEN FROM PLACES: objects and arrays have places 0 to 59, one layout ===== -/
abbrev Wd : Type := (Nat → Nat → Value) × (Nat → Nat → Int32) × (Nat → Nat → Int64)
abbrev vm_lay : List (Nat × Nat) := [(0, 11), (0, 9), (1, 400), (0, 6), (1, 9), (1, 9), (1, 9), (1, 9), (0, 6), (1, 9), (1, 9), (1, 9), (1, 9), (0, 5), (1, 6), (0, 5), (1, 6), (0, 5), (1, 6), (0, 0), (1, 40), (1, 40), (0, 7), (2, 2048), (1, 60200), (1, 60200), (0, 8), (1, 100), (1, 100), (1, 100), (0, 2), (1, 100), (1, 8), (0, 1), (1, 602), (1, 602), (1, 602), (1, 602), (0, 4), (0, 10), (1, 40), (1, 40), (1, 8), (0, 3), (0, 12), (1, 36), (1, 400), (1, 32), (1, 6), (1, 80), (1, 18), (2, 2), (3, 2), (1, 80000), (1, 80000), (1, 80000), (1, 80000), (1, 100), (1, 100), (1, 100)]
def vm_re (ad : Nat → Nat) : Value → Value
  | .ref k => .ref (ad k)
  | .int x => .int x
  | .long x => .long x
  | .float x => .float x
  | .double x => .double x
  | .null => .null
  | .retAddr x => .retAddr x
theorem vm_re_cat (ad : Nat → Nat) (v : Value) : (vm_re ad v).category = v.category := by cases v <;> rfl
theorem vm_re_nar {ad : Nat → Nat} {ty : FieldType} {v : Value} (h : narrow ty v = v) : narrow ty (vm_re ad v) = vm_re ad v := by
  cases v with
  | ref a => cases ty <;> rfl
  | _ => exact h
theorem vm_re_fit {ad : Nat → Nat} {ty : FieldType} {v : Value} (h : fits ty v = true) : fits ty (vm_re ad v) = true := by
  cases v with
  | ref a => cases ty <;> first | rfl | exact h
  | _ => exact h
def vm_e (ad : Nat → Nat) (tc : ClassId × ClassId × ClassId) (σ : Wd) (k : Nat) (q : Nat × Nat) : va_E := match q.1 with
  | 0 => .inr (q.2, (List.range (vm_N q.2)).map (fun j => vm_re ad (σ.1 k j)))
  | 1 => .inl (tc.1, q.2, .inl (σ.2.1 k))
  | 2 => .inl (tc.2.1, q.2, .inr (.inl (σ.2.2 k)))
  | _ => .inl (tc.2.2, q.2, .inl (σ.2.1 k))
def vm_cells (ad : Nat → Nat) (tc : ClassId × ClassId × ClassId) (σ : Wd) : va_W := (List.range 60).map (fun k => (ad k, vm_e ad tc σ k (vm_lay.getD k (9, 0))))
theorem vm_lay_lt {k : Nat} {q : Nat × Nat} (h : vm_lay[k]? = some q) : k < 60 := (List.getElem?_eq_some_iff.mp h).1
theorem vm_cells_get {ad : Nat → Nat} {tc : ClassId × ClassId × ClassId} {σ : Wd} {k : Nat} {q : Nat × Nat} (h : vm_lay[k]? = some q) : (vm_cells ad tc σ)[k]? = some (ad k, vm_e ad tc σ k q) := by
  have hk := vm_lay_lt h
  unfold vm_cells
  rw [List.getElem?_map, List.getElem?_range hk]
  simp only [Option.map_some, List.getD, h, Option.getD_some]
theorem vm_cells_at {ad : Nat → Nat} {tc : ClassId × ClassId × ClassId} {σ : Wd} {k : Nat} (hk : k < 60) : (vm_cells ad tc σ)[k]? = some (ad k, vm_e ad tc σ k (vm_lay.getD k (9, 0))) := by
  unfold vm_cells
  rw [List.getElem?_map, List.getElem?_range hk]
  rfl
theorem vm_cells_len {ad : Nat → Nat} {tc : ClassId × ClassId × ClassId} {σ : Wd} : (vm_cells ad tc σ).length = 60 := by
  unfold vm_cells
  rw [List.length_map, List.length_range]
theorem vm_cells_lt {ad : Nat → Nat} {tc : ClassId × ClassId × ClassId} {σ : Wd} {k : Nat} {q : Nat × va_E} (h : (vm_cells ad tc σ)[k]? = some q) : k < 60 ∧ q.1 = ad k := by
  have hk : k < 60 := by
    have := (List.getElem?_eq_some_iff.mp h).1
    rwa [vm_cells_len] at this
  rw [vm_cells_at hk] at h
  exact ⟨hk, by rw [← Option.some.inj h]⟩
theorem vm_cells_set {ad : Nat → Nat} {tc : ClassId × ClassId × ClassId} {σ σ' : Wd} {k : Nat} {q : Nat × Nat} (h : vm_lay[k]? = some q) (ho : ∀ (a : Nat) (q' : Nat × Nat), a ≠ k → vm_e ad tc σ' a q' = vm_e ad tc σ a q') : (vm_cells ad tc σ).set k (ad k, vm_e ad tc σ' k q) = vm_cells ad tc σ' := by
  apply List.ext_getElem?
  intro i
  rw [List.getElem?_set, vm_cells_len]
  by_cases hi : k = i
  · subst hi
    rw [if_pos rfl, if_pos (vm_lay_lt h), vm_cells_get h]
  · rw [if_neg hi]
    by_cases h60 : i < 60
    · rw [vm_cells_at h60, vm_cells_at h60, ho i _ (fun e => hi e.symm)]
    · rw [List.getElem?_eq_none (by rw [vm_cells_len]; omega), List.getElem?_eq_none (by rw [vm_cells_len]; omega)]
def vm_A (ad : Nat → Nat) (sz : Nat) : Nat → Prop := fun q => (∃ k : Nat, k < 60 ∧ q = ad k) ∨ sz ≤ q
theorem vm_A_mono {ad : Nat → Nat} {a b q : Nat} (h : a ≤ b) (hq : vm_A ad b q) : vm_A ad a q := by
  rcases hq with h1 | h1
  · exact Or.inl h1
  · exact Or.inr (Nat.le_trans h h1)
def vm_inj (ad : Nat → Nat) : Prop := ∀ i j : Nat, i < 60 → j < 60 → ad i = ad j → i = j
theorem vm_D {ad : Nat → Nat} {tc : ClassId × ClassId × ClassId} {σ : Wd} {sz : Nat} (h : vm_inj ad) : va_D (vm_A ad sz) (vm_cells ad tc σ) := by
  refine ⟨fun i j p q hp hq e => ?_, fun k q hk => ?_⟩
  · obtain ⟨h1, h2⟩ := vm_cells_lt hp
    obtain ⟨h3, h4⟩ := vm_cells_lt hq
    exact h i j h1 h3 (by rw [← h2, ← h4]; exact e)
  · obtain ⟨h1, h2⟩ := vm_cells_lt hk
    exact Or.inl ⟨k, h1, h2⟩
/-! words: those that every state keeps, and the nest's -/
def vm_isN : Cond → Bool
  | .fieldLinkNest .. => true
  | .methodLinkNest .. => true
  | _ => false
def vm_gd : List Cond := lw_tbl.filter goodWord
def vm_nt : List Cond := lw_tbl.filter vm_isN
theorem vm_gd_in {w : Cond} (h : w ∈ lw_tbl) (hg : goodWord w = true) : w ∈ vm_gd := List.mem_filter.mpr ⟨h, hg⟩
theorem vm_nt_in {w : Cond} (h : w ∈ lw_tbl) (hg : vm_isN w = true) : w ∈ vm_nt := List.mem_filter.mpr ⟨h, hg⟩
def vm_ws (M : MI) : List Cond := .code M.1 M.2.1 M.2.2.1 M.2.2.2 :: vm_gd
theorem vm_gd_good {M : MI} (h : Cond.code M.1 M.2.1 M.2.2.1 M.2.2.2 ∈ lw_tbl) : GoodIn vm_gd (vm_ws M) := by
  intro w hw
  rcases List.mem_cons.mp hw with e | h2
  · subst e
    have h1 := vm_gd_in h rfl
    exact ⟨h1, Or.inl rfl⟩
  · exact ⟨h2, good_of_word (List.mem_filter.mp h2).2⟩
def vm_rm (D : Nat) : Room := { frames := D, cells := 0, slots := 0, locals := 64 * D }
def vm_tys (tc : ClassId × ClassId × ClassId) : List (ClassId × FieldType) := [(tc.1, .int), (tc.2.1, .long), (tc.2.2, .boolean)]
def vm_sx : List Nat := [55, 65, 67, 113, 115, 117, 119, 121, 123, 125, 127]
def vm_tx : List String := ["dial", "round", "stop", "figure", "plus", "less", "times", "is", "clear", "now", "stuck"]
def vm_len : List Nat := [4, 5, 4, 6, 4, 4, 5, 2, 5, 3, 5]
def vm_byt : List (List Int32) := [[100, 105, 97, 108], [114, 111, 117, 110, 100], [115, 116, 111, 112], [102, 105, 103, 117, 114, 101], [112, 108, 117, 115], [108, 101, 115, 115], [116, 105, 109, 101, 115], [105, 115], [99, 108, 101, 97, 114], [110, 111, 119], [115, 116, 117, 99, 107]]
def vm_str (ad : Nat → Nat) (A : Nat → Prop) (U : State) (H : Heap) : Prop := (∃ adV : Nat → Nat, vk_S 11 vm_len vm_byt (fun i => ad (100 + i)) adV A U H) ∧ ∀ i : Nat, i < 11 → vk_R "FewKeys$Text" (vm_sx.getD i 0) (vm_tx.getD i "") (ad (100 + i)) U
/-- what the tables and the strings are, at a state -/
def vm_St (G : va_G) (ad : Nat → Nat) (tc : ClassId × ClassId × ClassId) (sz : Nat) (U : State) (H : Heap) : Prop := va_K G classes (vm_tys tc) U ∧ (∀ w ∈ vm_nt, va_Nw w U) ∧ vm_str ad (vm_A ad sz) U H
theorem vm_Nw_warm {s U : State} (hW : s.WarmedH U.vm) {w : Cond} (hw : w ∈ vm_nt) (h : va_Nw w s) : va_Nw w U := by
  have h2 := (List.mem_filter.mp hw).2
  cases w <;> first | exact absurd h2 (by decide) | exact va_Nw.warmF hW h | exact va_Nw.warmM hW h | (simp [vm_isN] at h2)
theorem vm_St.warm {G : va_G} {ad : Nat → Nat} {tc : ClassId × ClassId × ClassId} {sz sz' : Nat} {s U : State} {H0 H : Heap} (hW : s.WarmedH U.vm) (hle : sz ≤ sz') (hk : ∀ q : Nat, q < H0.size → ¬ vm_A ad sz q → H[q]? = H0[q]?) (h : vm_St G ad tc sz s H0) : vm_St G ad tc sz' U H := by
  obtain ⟨h1, h2, ⟨adV, h3⟩, h4⟩ := h
  exact ⟨va_K.moved hW.alike h1, fun w hw => vm_Nw_warm hW hw (h2 w hw), ⟨adV, ((h3.moved hW.alike).kept hk).narrow (fun q hq => vm_A_mono hle hq)⟩, fun i hi => (h4 i hi).warm hW⟩
theorem vm_St.same {G : va_G} {ad : Nat → Nat} {tc : ClassId × ClassId × ClassId} {sz : Nat} {s U : State} {H : Heap} (hv : U.vm = s.vm) (h : vm_St G ad tc sz s H) : vm_St G ad tc sz U H := by
  obtain ⟨h1, h2, ⟨adV, h3⟩, h4⟩ := h
  have ha : s.vm.Alike U.vm := by rw [hv]; exact Vm.Alike.refl _
  refine ⟨va_K.moved ha h1, fun w hw => ?_, ⟨adV, h3.moved ha⟩, fun i hi => (h4 i hi).same hv⟩
  have h5 := h2 w hw
  have h6 := (List.mem_filter.mp hw).2
  have ho : w.onTables = true := by cases w <;> first | rfl | (simp [vm_isN] at h6)
  exact va_Nw.same ho hv.symm h5
/-- a contract's start and end -/
def vm_P (G : va_G) (ad : Nat → Nat) (tc : ClassId × ClassId × ClassId) (sz : Nat) (as : List Value) (σ : Wd) : Array Value → State → Prop := fun v U => v = (as.map (vm_re ad)).toArray ∧ U.heap.size = sz ∧ va_P G classes (vm_cells ad tc σ) U.heap ∧ vm_St G ad tc sz U U.heap
def vm_Q (G : va_G) (ad : Nat → Nat) (tc : ClassId × ClassId × ClassId) (sz : Nat) (Q : Option Value → Wd → Prop) : Array Value → State → Outcome → State → Prop := fun _ st o t => (∃ (r : Option Value) (σ' : Wd), o = .returned (r.map (vm_re ad)) ∧ Q r σ' ∧ va_P G classes (vm_cells ad tc σ') t.heap) ∧ va_F (vm_A ad sz) st t
theorem vm_P_blind {G : va_G} {ad : Nat → Nat} {tc : ClassId × ClassId × ClassId} {sz : Nat} {as : List Value} {σ : Wd} : FrameBlind (vm_P G ad tc sz as σ) := by
  intro a U g mk ⟨h1, h2, h3, h4⟩
  exact ⟨h1, h2, h3, show vm_St G ad tc sz (U.calling g mk a) U.heap from vm_St.same (s := U) rfl h4⟩
/-- METHOD M, CALLED WITH as IN σ, COMES BACK WITH Q -/
def Ok (D : Nat) (M : MI) (as : List Value) (σ : Wd) (Q : Option Value → Wd → Prop) : Prop := ∀ (l : Launch) (G : va_G) (ad : Nat → Nat) (tc : ClassId × ClassId × ClassId) (sz : Nat), vm_inj ad → Met l M.1 (vm_ws M) (vm_rm D) (vm_P G ad tc sz as σ) (vm_Q G ad tc sz Q) 0 0 (vm_A ad sz)
def vm_LH (ad : Nat → Nat) (ls : Array Slot) (n : Nat) (lv : List (Option Value)) : Prop := ls.size = n ∧ lv_wf ls ∧ ∀ (i : Nat) (v : Value), lv[i]? = some (some v) → ls[i]? = some (.val (vm_re ad v))
def vm_C (p : Program) (s : State) (m : MethodId) (args : Array Value) (meth : Method) (c : Code) (G : va_G) (ad : Nat → Nat) (tc : ClassId × ClassId × ClassId) (sz : Nat) (M : MI) : Prop :=
  p.tables.exec = Jvm.exec ∧ c.code = M.2.1 ∧ meth.sig.returnType = M.2.2.2 ∧ c.maxLocals = M.2.2.1 ∧ s.vm.findClass M.1.cls = some m.cls ∧ (∀ w ∈ vm_gd, w.before args s = true) ∧ meth.locks = false ∧ vm_inj ad ∧ s.heap.size = sz ∧ vm_St G ad tc sz s s.heap
/-- FROM pc, WITH LOCALS lv AND STACK st, IN σ, THE METHOD COMES TO ITS END WITH Q -/
def V (M : MI) (D pc : Nat) (lv : List (Option Value)) (st : List Value) (σ : Wd) (Q : Option Value → Wd → Prop) : Prop :=
  ∀ (p : Program) (l : Launch) (e : Env) (s : State) (m : MethodId) (args : Array Value) (below : List Frame) (meth : Method) (c : Code) (G : va_G) (ad : Nat → Nat) (tc : ClassId × ClassId × ClassId) (sz : Nat),
    vm_C p s m args meth c G ad tc sz M → ∀ (ls : Array Slot) (H : Heap) (locs : List Loc), vm_LH ad ls M.2.2.1 lv → va_P G classes (vm_cells ad tc σ) H → va_S (vm_A ad sz) s.heap H locs →
    W p l e (vm_rm D) s m args below meth c H locs 0 0 (MQ below (vm_Q G ad tc sz Q) args s 0 0 (vm_A ad sz)) (F0 m pc ls (st.map (vm_re ad)))
abbrev vm_at (b : ByteArray) (pc : Nat) (i : Instr) (n pc' : Nat) : Prop := decode b pc = .ok (i, n) ∧ pc + n = pc'
abbrev vm_br (b : ByteArray) (pc : Nat) (i : Instr) (n pc' : Nat) (off : Int) (tgt : Nat) : Prop := decode b pc = .ok (i, n) ∧ pc + n = pc' ∧ (pc : Int) + off = (tgt : Int)
section VMR
variable {M : MI} {D pc pc' : Nat} {lv : List (Option Value)} {st : List Value} {σ : Wd} {Q : Option Value → Wd → Prop}
theorem v_iadd {x y : Int32} (hd : vm_at M.2.1 pc .iadd 1 pc') (k : V M D pc' lv (.int (x + y) :: st) σ Q) : V M D pc lv (.int y :: .int x :: st) σ Q := by
  obtain ⟨hd, rfl⟩ := hd
  intro p l e s m args below meth c G ad tc sz C ls H locs hl hP hS
  exact lv_iadd C.1 C.2.1 hd  (k p l e s m args below meth c G ad tc sz C ls H locs hl hP hS)
theorem v_isub {x y : Int32} (hd : vm_at M.2.1 pc .isub 1 pc') (k : V M D pc' lv (.int (x - y) :: st) σ Q) : V M D pc lv (.int y :: .int x :: st) σ Q := by
  obtain ⟨hd, rfl⟩ := hd
  intro p l e s m args below meth c G ad tc sz C ls H locs hl hP hS
  exact lv_isub C.1 C.2.1 hd  (k p l e s m args below meth c G ad tc sz C ls H locs hl hP hS)
theorem v_imul {x y : Int32} (hd : vm_at M.2.1 pc .imul 1 pc') (k : V M D pc' lv (.int (x * y) :: st) σ Q) : V M D pc lv (.int y :: .int x :: st) σ Q := by
  obtain ⟨hd, rfl⟩ := hd
  intro p l e s m args below meth c G ad tc sz C ls H locs hl hP hS
  exact lv_imul C.1 C.2.1 hd  (k p l e s m args below meth c G ad tc sz C ls H locs hl hP hS)
theorem v_iand {x y : Int32} (hd : vm_at M.2.1 pc .iand 1 pc') (k : V M D pc' lv (.int (x &&& y) :: st) σ Q) : V M D pc lv (.int y :: .int x :: st) σ Q := by
  obtain ⟨hd, rfl⟩ := hd
  intro p l e s m args below meth c G ad tc sz C ls H locs hl hP hS
  exact lv_iand C.1 C.2.1 hd  (k p l e s m args below meth c G ad tc sz C ls H locs hl hP hS)
theorem v_ior {x y : Int32} (hd : vm_at M.2.1 pc .ior 1 pc') (k : V M D pc' lv (.int (x ||| y) :: st) σ Q) : V M D pc lv (.int y :: .int x :: st) σ Q := by
  obtain ⟨hd, rfl⟩ := hd
  intro p l e s m args below meth c G ad tc sz C ls H locs hl hP hS
  exact lv_ior C.1 C.2.1 hd  (k p l e s m args below meth c G ad tc sz C ls H locs hl hP hS)
theorem v_ixor {x y : Int32} (hd : vm_at M.2.1 pc .ixor 1 pc') (k : V M D pc' lv (.int (x ^^^ y) :: st) σ Q) : V M D pc lv (.int y :: .int x :: st) σ Q := by
  obtain ⟨hd, rfl⟩ := hd
  intro p l e s m args below meth c G ad tc sz C ls H locs hl hP hS
  exact lv_ixor C.1 C.2.1 hd  (k p l e s m args below meth c G ad tc sz C ls H locs hl hP hS)
theorem v_ishl {x y : Int32} (hd : vm_at M.2.1 pc .ishl 1 pc') (k : V M D pc' lv (.int (x <<< (y &&& 31)) :: st) σ Q) : V M D pc lv (.int y :: .int x :: st) σ Q := by
  obtain ⟨hd, rfl⟩ := hd
  intro p l e s m args below meth c G ad tc sz C ls H locs hl hP hS
  exact lv_ishl C.1 C.2.1 hd  (k p l e s m args below meth c G ad tc sz C ls H locs hl hP hS)
theorem v_ishr {x y : Int32} (hd : vm_at M.2.1 pc .ishr 1 pc') (k : V M D pc' lv (.int (x >>> (y &&& 31)) :: st) σ Q) : V M D pc lv (.int y :: .int x :: st) σ Q := by
  obtain ⟨hd, rfl⟩ := hd
  intro p l e s m args below meth c G ad tc sz C ls H locs hl hP hS
  exact lv_ishr C.1 C.2.1 hd  (k p l e s m args below meth c G ad tc sz C ls H locs hl hP hS)
theorem v_iushr {x y : Int32} (hd : vm_at M.2.1 pc .iushr 1 pc') (k : V M D pc' lv (.int ((x.toUInt32 >>> (y.toUInt32 &&& Int32.toUInt32 31)).toInt32) :: st) σ Q) : V M D pc lv (.int y :: .int x :: st) σ Q := by
  obtain ⟨hd, rfl⟩ := hd
  intro p l e s m args below meth c G ad tc sz C ls H locs hl hP hS
  exact lv_iushr C.1 C.2.1 hd rfl (k p l e s m args below meth c G ad tc sz C ls H locs hl hP hS)
theorem v_idiv {x y : Int32} (hd : vm_at M.2.1 pc .idiv 1 pc') (hne : ¬ y = 0) (k : V M D pc' lv (.int (x / y) :: st) σ Q) : V M D pc lv (.int y :: .int x :: st) σ Q := by
  obtain ⟨hd, rfl⟩ := hd
  intro p l e s m args below meth c G ad tc sz C ls H locs hl hP hS
  exact lv_idiv C.1 C.2.1 hd hne (k p l e s m args below meth c G ad tc sz C ls H locs hl hP hS)
theorem v_irem {x y : Int32} (hd : vm_at M.2.1 pc .irem 1 pc') (hne : ¬ y = 0) (k : V M D pc' lv (.int (x - x / y * y) :: st) σ Q) : V M D pc lv (.int y :: .int x :: st) σ Q := by
  obtain ⟨hd, rfl⟩ := hd
  intro p l e s m args below meth c G ad tc sz C ls H locs hl hP hS
  exact lv_irem C.1 C.2.1 hd hne (k p l e s m args below meth c G ad tc sz C ls H locs hl hP hS)
theorem v_ladd {x y : Int64} (hd : vm_at M.2.1 pc .ladd 1 pc') (k : V M D pc' lv (.long (x + y) :: st) σ Q) : V M D pc lv (.long y :: .long x :: st) σ Q := by
  obtain ⟨hd, rfl⟩ := hd
  intro p l e s m args below meth c G ad tc sz C ls H locs hl hP hS
  exact lv_ladd C.1 C.2.1 hd  (k p l e s m args below meth c G ad tc sz C ls H locs hl hP hS)
theorem v_lsub {x y : Int64} (hd : vm_at M.2.1 pc .lsub 1 pc') (k : V M D pc' lv (.long (x - y) :: st) σ Q) : V M D pc lv (.long y :: .long x :: st) σ Q := by
  obtain ⟨hd, rfl⟩ := hd
  intro p l e s m args below meth c G ad tc sz C ls H locs hl hP hS
  exact lv_lsub C.1 C.2.1 hd  (k p l e s m args below meth c G ad tc sz C ls H locs hl hP hS)
theorem v_lmul {x y : Int64} (hd : vm_at M.2.1 pc .lmul 1 pc') (k : V M D pc' lv (.long (x * y) :: st) σ Q) : V M D pc lv (.long y :: .long x :: st) σ Q := by
  obtain ⟨hd, rfl⟩ := hd
  intro p l e s m args below meth c G ad tc sz C ls H locs hl hP hS
  exact lv_lmul C.1 C.2.1 hd  (k p l e s m args below meth c G ad tc sz C ls H locs hl hP hS)
theorem v_land {x y : Int64} (hd : vm_at M.2.1 pc .land 1 pc') (k : V M D pc' lv (.long (x &&& y) :: st) σ Q) : V M D pc lv (.long y :: .long x :: st) σ Q := by
  obtain ⟨hd, rfl⟩ := hd
  intro p l e s m args below meth c G ad tc sz C ls H locs hl hP hS
  exact lv_land C.1 C.2.1 hd  (k p l e s m args below meth c G ad tc sz C ls H locs hl hP hS)
theorem v_lor {x y : Int64} (hd : vm_at M.2.1 pc .lor 1 pc') (k : V M D pc' lv (.long (x ||| y) :: st) σ Q) : V M D pc lv (.long y :: .long x :: st) σ Q := by
  obtain ⟨hd, rfl⟩ := hd
  intro p l e s m args below meth c G ad tc sz C ls H locs hl hP hS
  exact lv_lor C.1 C.2.1 hd  (k p l e s m args below meth c G ad tc sz C ls H locs hl hP hS)
theorem v_ldiv {x y : Int64} (hd : vm_at M.2.1 pc .ldiv 1 pc') (hne : ¬ y = 0) (k : V M D pc' lv (.long (x / y) :: st) σ Q) : V M D pc lv (.long y :: .long x :: st) σ Q := by
  obtain ⟨hd, rfl⟩ := hd
  intro p l e s m args below meth c G ad tc sz C ls H locs hl hP hS
  exact lv_ldiv C.1 C.2.1 hd hne (k p l e s m args below meth c G ad tc sz C ls H locs hl hP hS)
theorem v_lrem {x y : Int64} (hd : vm_at M.2.1 pc .lrem 1 pc') (hne : ¬ y = 0) (k : V M D pc' lv (.long (x - x / y * y) :: st) σ Q) : V M D pc lv (.long y :: .long x :: st) σ Q := by
  obtain ⟨hd, rfl⟩ := hd
  intro p l e s m args below meth c G ad tc sz C ls H locs hl hP hS
  exact lv_lrem C.1 C.2.1 hd hne (k p l e s m args below meth c G ad tc sz C ls H locs hl hP hS)
theorem v_lushr {x : Int64} {y : Int32} (hd : vm_at M.2.1 pc .lushr 1 pc') (k : V M D pc' lv (.long ((x.toUInt64 >>> (y.toInt64.toUInt64 &&& Int64.toUInt64 63)).toInt64) :: st) σ Q) : V M D pc lv (.int y :: .long x :: st) σ Q := by
  obtain ⟨hd, rfl⟩ := hd
  intro p l e s m args below meth c G ad tc sz C ls H locs hl hP hS
  exact lv_lushr C.1 C.2.1 hd rfl (k p l e s m args below meth c G ad tc sz C ls H locs hl hP hS)
theorem v_lshl {x : Int64} {y : Int32} (hd : vm_at M.2.1 pc .lshl 1 pc') (k : V M D pc' lv (.long (x <<< (y.toInt64 &&& 63)) :: st) σ Q) : V M D pc lv (.int y :: .long x :: st) σ Q := by
  obtain ⟨hd, rfl⟩ := hd
  intro p l e s m args below meth c G ad tc sz C ls H locs hl hP hS
  exact lv_lshl C.1 C.2.1 hd rfl (k p l e s m args below meth c G ad tc sz C ls H locs hl hP hS)
theorem v_lshr {x : Int64} {y : Int32} (hd : vm_at M.2.1 pc .lshr 1 pc') (k : V M D pc' lv (.long (x >>> (y.toInt64 &&& 63)) :: st) σ Q) : V M D pc lv (.int y :: .long x :: st) σ Q := by
  obtain ⟨hd, rfl⟩ := hd
  intro p l e s m args below meth c G ad tc sz C ls H locs hl hP hS
  exact lv_lshr C.1 C.2.1 hd rfl (k p l e s m args below meth c G ad tc sz C ls H locs hl hP hS)
theorem v_lcmp {x y : Int64} (hd : vm_at M.2.1 pc .lcmp 1 pc') (k : V M D pc' lv (.int (lg_cmp x y) :: st) σ Q) : V M D pc lv (.long y :: .long x :: st) σ Q := by
  obtain ⟨hd, rfl⟩ := hd
  intro p l e s m args below meth c G ad tc sz C ls H locs hl hP hS
  exact W.lcmp C.1 C.2.1 hd  (k p l e s m args below meth c G ad tc sz C ls H locs hl hP hS)
theorem v_ineg {x : Int32} (hd : vm_at M.2.1 pc .ineg 1 pc') (k : V M D pc' lv (.int (-x) :: st) σ Q) : V M D pc lv (.int x :: st) σ Q := by
  obtain ⟨hd, rfl⟩ := hd
  intro p l e s m args below meth c G ad tc sz C ls H locs hl hP hS
  exact lv_ineg C.1 C.2.1 hd  (k p l e s m args below meth c G ad tc sz C ls H locs hl hP hS)
theorem v_i2l {x : Int32} (hd : vm_at M.2.1 pc .i2l 1 pc') (k : V M D pc' lv (.long x.toInt64 :: st) σ Q) : V M D pc lv (.int x :: st) σ Q := by
  obtain ⟨hd, rfl⟩ := hd
  intro p l e s m args below meth c G ad tc sz C ls H locs hl hP hS
  exact lv_i2l C.1 C.2.1 hd rfl (k p l e s m args below meth c G ad tc sz C ls H locs hl hP hS)
theorem v_l2i {x : Int64} (hd : vm_at M.2.1 pc .l2i 1 pc') (k : V M D pc' lv (.int x.toInt32 :: st) σ Q) : V M D pc lv (.long x :: st) σ Q := by
  obtain ⟨hd, rfl⟩ := hd
  intro p l e s m args below meth c G ad tc sz C ls H locs hl hP hS
  exact lv_l2i C.1 C.2.1 hd rfl (k p l e s m args below meth c G ad tc sz C ls H locs hl hP hS)
theorem v_i2c {x : Int32} (hd : vm_at M.2.1 pc .i2c 1 pc') (k : V M D pc' lv (.int ((x.toUInt32 % 65536).toInt32) :: st) σ Q) : V M D pc lv (.int x :: st) σ Q := by
  obtain ⟨hd, rfl⟩ := hd
  intro p l e s m args below meth c G ad tc sz C ls H locs hl hP hS
  exact lv_i2c C.1 C.2.1 hd rfl (k p l e s m args below meth c G ad tc sz C ls H locs hl hP hS)
theorem v_dup {v : Value} (hd : vm_at M.2.1 pc .dup 1 pc') (hc : v.category = 1) (k : V M D pc' lv (v :: v :: st) σ Q) : V M D pc lv (v :: st) σ Q := by
  obtain ⟨hd, rfl⟩ := hd
  intro p l e s m args below meth c G ad tc sz C ls H locs hl hP hS
  exact lv_dup C.1 C.2.1 hd (by rw [vm_re_cat]; exact hc) (k p l e s m args below meth c G ad tc sz C ls H locs hl hP hS)
theorem v_dup2 {v v' : Value} (hd : vm_at M.2.1 pc .dup2 1 pc') (hc : v.category = 1) (hc' : v'.category = 1) (k : V M D pc' lv (v :: v' :: v :: v' :: st) σ Q) : V M D pc lv (v :: v' :: st) σ Q := by
  obtain ⟨hd, rfl⟩ := hd
  intro p l e s m args below meth c G ad tc sz C ls H locs hl hP hS
  exact lv_dup2_11 C.1 C.2.1 hd (by rw [vm_re_cat]; exact hc) (by rw [vm_re_cat]; exact hc') (k p l e s m args below meth c G ad tc sz C ls H locs hl hP hS)
theorem v_pop {v : Value} (hd : vm_at M.2.1 pc .pop 1 pc') (hc : v.category = 1) (k : V M D pc' lv st σ Q) : V M D pc lv (v :: st) σ Q := by
  obtain ⟨hd, rfl⟩ := hd
  intro p l e s m args below meth c G ad tc sz C ls H locs hl hP hS
  exact lv_pop C.1 C.2.1 hd (by rw [vm_re_cat]; exact hc) (k p l e s m args below meth c G ad tc sz C ls H locs hl hP hS)
theorem v_iconst {n : Int} {z : Int32} (hd : vm_at M.2.1 pc (.iconst n) 1 pc' ∧ Int32.ofInt n = z) (k : V M D pc' lv (.int z :: st) σ Q) : V M D pc lv st σ Q := by
  obtain ⟨⟨hd, rfl⟩, hz⟩ := hd
  intro p l e s m args below meth c G ad tc sz C ls H locs hl hP hS
  exact lv_iconst C.1 C.2.1 hd hz (k p l e s m args below meth c G ad tc sz C ls H locs hl hP hS)
theorem v_bipush {n : Int} {z : Int32} (hd : vm_at M.2.1 pc (.bipush n) 2 pc' ∧ (Int8.ofInt n).toInt32 = z) (k : V M D pc' lv (.int z :: st) σ Q) : V M D pc lv st σ Q := by
  obtain ⟨⟨hd, rfl⟩, hz⟩ := hd
  intro p l e s m args below meth c G ad tc sz C ls H locs hl hP hS
  exact lv_bipush C.1 C.2.1 hd hz (k p l e s m args below meth c G ad tc sz C ls H locs hl hP hS)
theorem v_sipush {n : Int} {z : Int32} (hd : vm_at M.2.1 pc (.sipush n) 3 pc' ∧ (Int16.ofInt n).toInt32 = z) (k : V M D pc' lv (.int z :: st) σ Q) : V M D pc lv st σ Q := by
  obtain ⟨⟨hd, rfl⟩, hz⟩ := hd
  intro p l e s m args below meth c G ad tc sz C ls H locs hl hP hS
  exact lv_sipush C.1 C.2.1 hd hz (k p l e s m args below meth c G ad tc sz C ls H locs hl hP hS)
theorem v_lconst {n : Fin 2} {z : Int64} (hd : vm_at M.2.1 pc (.lconst n) 1 pc' ∧ Int64.ofNat (n : Nat) = z) (k : V M D pc' lv (.long z :: st) σ Q) : V M D pc lv st σ Q := by
  obtain ⟨⟨hd, rfl⟩, hz⟩ := hd
  intro p l e s m args below meth c G ad tc sz C ls H locs hl hP hS
  exact lv_lconst C.1 C.2.1 hd hz (k p l e s m args below meth c G ad tc sz C ls H locs hl hP hS)
theorem v_ldc {ix : Nat} {z : Int32} (hd : vm_at M.2.1 pc (.ldc ix) 2 pc') (hw : Cond.constant M.1.cls ix z ∈ lw_tbl) (k : V M D pc' lv (.int z :: st) σ Q) : V M D pc lv st σ Q := by
  obtain ⟨hd, rfl⟩ := hd
  intro p l e s m args below meth c G ad tc sz C ls H locs hl hP hS
  exact lv_ldc C.1 C.2.1 C.2.2.2.2.1 (C.2.2.2.2.2.1 _ (vm_gd_in hw rfl)) hd (k p l e s m args below meth c G ad tc sz C ls H locs hl hP hS)
theorem v_ldcw {ix : Nat} {z : Int32} (hd : vm_at M.2.1 pc (.ldc_w ix) 3 pc') (hw : Cond.constant M.1.cls ix z ∈ lw_tbl) (k : V M D pc' lv (.int z :: st) σ Q) : V M D pc lv st σ Q := by
  obtain ⟨hd, rfl⟩ := hd
  intro p l e s m args below meth c G ad tc sz C ls H locs hl hP hS
  exact lv_ldcw C.1 C.2.1 C.2.2.2.2.1 (C.2.2.2.2.2.1 _ (vm_gd_in hw rfl)) hd (k p l e s m args below meth c G ad tc sz C ls H locs hl hP hS)
theorem v_ldc2 {ix : Nat} {z : Int64} (hd : vm_at M.2.1 pc (.ldc2_w ix) 3 pc') (hw : Cond.constantLong M.1.cls ix z ∈ lw_tbl) (k : V M D pc' lv (.long z :: st) σ Q) : V M D pc lv st σ Q := by
  obtain ⟨hd, rfl⟩ := hd
  intro p l e s m args below meth c G ad tc sz C ls H locs hl hP hS
  exact lv_ldc2 C.1 C.2.1 C.2.2.2.2.1 (C.2.2.2.2.2.1 _ (vm_gd_in hw rfl)) hd (k p l e s m args below meth c G ad tc sz C ls H locs hl hP hS)
theorem v_null (hd : vm_at M.2.1 pc .aconst_null 1 pc') (k : V M D pc' lv (.null :: st) σ Q) : V M D pc lv st σ Q := by
  obtain ⟨hd, rfl⟩ := hd
  intro p l e s m args below meth c G ad tc sz C ls H locs hl hP hS
  exact lv_null C.1 C.2.1 hd (k p l e s m args below meth c G ad tc sz C ls H locs hl hP hS)
theorem v_iload {i : Nat} {x : Int32} (hd : vm_at M.2.1 pc (.iload i) 2 pc') (hv : lv[i]? = some (some (.int x))) (k : V M D pc' lv (.int x :: st) σ Q) : V M D pc lv st σ Q := by
  obtain ⟨hd, rfl⟩ := hd
  intro p l e s m args below meth c G ad tc sz C ls H locs hl hP hS
  exact lv_iload C.1 C.2.1 hd (hl.2.2 i _ hv) (k p l e s m args below meth c G ad tc sz C ls H locs hl hP hS)
theorem v_iload_n {j : Fin 4} {i : Nat} {x : Int32} (hd : vm_at M.2.1 pc (.iload_n j) 1 pc' ∧ (j : Nat) = i) (hv : lv[i]? = some (some (.int x))) (k : V M D pc' lv (.int x :: st) σ Q) : V M D pc lv st σ Q := by
  obtain ⟨⟨hd, rfl⟩, hj⟩ := hd
  intro p l e s m args below meth c G ad tc sz C ls H locs hl hP hS
  exact lv_iload_n C.1 C.2.1 hd hj (hl.2.2 i _ hv) (k p l e s m args below meth c G ad tc sz C ls H locs hl hP hS)
theorem v_lload {i : Nat} {x : Int64} (hd : vm_at M.2.1 pc (.lload i) 2 pc') (hv : lv[i]? = some (some (.long x))) (k : V M D pc' lv (.long x :: st) σ Q) : V M D pc lv st σ Q := by
  obtain ⟨hd, rfl⟩ := hd
  intro p l e s m args below meth c G ad tc sz C ls H locs hl hP hS
  exact lv_lload C.1 C.2.1 hd (hl.2.2 i _ hv) (k p l e s m args below meth c G ad tc sz C ls H locs hl hP hS)
theorem v_lload_n {j : Fin 4} {i : Nat} {x : Int64} (hd : vm_at M.2.1 pc (.lload_n j) 1 pc' ∧ (j : Nat) = i) (hv : lv[i]? = some (some (.long x))) (k : V M D pc' lv (.long x :: st) σ Q) : V M D pc lv st σ Q := by
  obtain ⟨⟨hd, rfl⟩, hj⟩ := hd
  intro p l e s m args below meth c G ad tc sz C ls H locs hl hP hS
  exact lv_lload_n C.1 C.2.1 hd hj (hl.2.2 i _ hv) (k p l e s m args below meth c G ad tc sz C ls H locs hl hP hS)
theorem v_aload {i : Nat} {x : Nat} (hd : vm_at M.2.1 pc (.aload i) 2 pc') (hv : lv[i]? = some (some (.ref x))) (k : V M D pc' lv (.ref x :: st) σ Q) : V M D pc lv st σ Q := by
  obtain ⟨hd, rfl⟩ := hd
  intro p l e s m args below meth c G ad tc sz C ls H locs hl hP hS
  exact lv_aload C.1 C.2.1 hd (hl.2.2 i _ hv) (k p l e s m args below meth c G ad tc sz C ls H locs hl hP hS)
theorem v_aload_n {j : Fin 4} {i : Nat} {x : Nat} (hd : vm_at M.2.1 pc (.aload_n j) 1 pc' ∧ (j : Nat) = i) (hv : lv[i]? = some (some (.ref x))) (k : V M D pc' lv (.ref x :: st) σ Q) : V M D pc lv st σ Q := by
  obtain ⟨⟨hd, rfl⟩, hj⟩ := hd
  intro p l e s m args below meth c G ad tc sz C ls H locs hl hP hS
  exact lv_aload_n C.1 C.2.1 hd hj (hl.2.2 i _ hv) (k p l e s m args below meth c G ad tc sz C ls H locs hl hP hS)
theorem v_aloadN {i : Nat} (hd : vm_at M.2.1 pc (.aload i) 2 pc') (hv : lv[i]? = some (some .null)) (k : V M D pc' lv (.null :: st) σ Q) : V M D pc lv st σ Q := by
  obtain ⟨hd, rfl⟩ := hd
  intro p l e s m args below meth c G ad tc sz C ls H locs hl hP hS
  exact lv_aloadN C.1 C.2.1 hd (hl.2.2 i _ hv) (k p l e s m args below meth c G ad tc sz C ls H locs hl hP hS)
theorem v_aload_nN {j : Fin 4} {i : Nat} (hd : vm_at M.2.1 pc (.aload_n j) 1 pc' ∧ (j : Nat) = i) (hv : lv[i]? = some (some .null)) (k : V M D pc' lv (.null :: st) σ Q) : V M D pc lv st σ Q := by
  obtain ⟨⟨hd, rfl⟩, hj⟩ := hd
  intro p l e s m args below meth c G ad tc sz C ls H locs hl hP hS
  exact lv_aload_nN C.1 C.2.1 hd hj (hl.2.2 i _ hv) (k p l e s m args below meth c G ad tc sz C ls H locs hl hP hS)
def vm_ok1 (lv : List (Option Value)) : Nat → Bool
  | 0 => true
  | j + 1 => match lv[j]? with
    | some (some v) => v.category != 2
    | _ => true
def vm_tl (ad : Nat → Nat) (lv : List (Option Value)) : List (Nat × Value) := (List.range lv.length).filterMap (fun i => (lv[i]?.join).map (fun v => (i, vm_re ad v)))
theorem vm_tl_in {ad : Nat → Nat} {lv : List (Option Value)} {i : Nat} {v : Value} (h : lv[i]? = some (some v)) : (i, vm_re ad v) ∈ vm_tl ad lv := by
  refine List.mem_filterMap.mpr ⟨i, List.mem_range.mpr (List.getElem?_eq_some_iff.mp h).1, ?_⟩
  rw [h]
  rfl
theorem vm_LH.has {ad : Nat → Nat} {ls : Array Slot} {n : Nat} {lv : List (Option Value)} (h : vm_LH ad ls n lv) : lv_has ls n (vm_tl ad lv) := by
  refine ⟨h.1, h.2.1, fun q hq => ?_⟩
  obtain ⟨i, hi, he⟩ := List.mem_filterMap.mp hq
  cases hv : lv[i]? with
  | none => rw [hv] at he; cases he
  | some o =>
    cases o with
    | none => rw [hv] at he; cases he
    | some v =>
      rw [hv] at he
      have e2 : (i, vm_re ad v) = q := Option.some.inj he
      rw [← e2]
      exact h.2.2 i v hv
theorem vm_LH.st1 {ad : Nat → Nat} {ls' : Array Slot} {n i : Nat} {lv : List (Option Value)} {v : Value} (hk : vm_ok1 lv i = true)
    (h : lv_has ls' n ((i, vm_re ad v) :: (vm_tl ad lv).filter (fun q => !(q.1 == i) && !(q.1 + 1 == i && q.2.category == 2)))) : vm_LH ad ls' n (lv.set i (some v)) := by
  refine ⟨h.1, h.2.1, fun j v' hj => ?_⟩
  rw [List.getElem?_set] at hj
  by_cases e : i = j
  · subst e
    rw [if_pos rfl] at hj
    split at hj
    · have e3 : v = v' := Option.some.inj (Option.some.inj hj)
      rw [← e3]
      exact h.2.2 (i, vm_re ad v) List.mem_cons_self
    · cases hj
  · rw [if_neg e] at hj
    refine h.2.2 (j, vm_re ad v') (List.mem_cons_of_mem _ (List.mem_filter.mpr ⟨vm_tl_in hj, ?_⟩))
    have h1 : (j == i) = false := by simpa using (fun q : j = i => e q.symm)
    by_cases e2 : j + 1 = i
    · subst e2
      have h3 : (v'.category != 2) = true := by
        have h9 : (match lv[j]? with
          | some (some v) => v.category != 2
          | _ => true) = true := hk
        rw [hj] at h9
        exact h9
      have h4 : (v'.category == 2) = false := by simpa using h3
      simp [vm_re_cat, h4]
    · have h5 : (j + 1 == i) = false := by simpa using e2
      simp [h1, h5]
theorem vm_LH.st2 {ad : Nat → Nat} {ls' : Array Slot} {n i : Nat} {lv : List (Option Value)} {v : Value} (hk : vm_ok1 lv i = true)
    (h : lv_has ls' n ((i, vm_re ad v) :: (vm_tl ad lv).filter (fun q => !(q.1 == i) && (!(q.1 == i + 1) && !(q.1 + 1 == i && q.2.category == 2))))) : vm_LH ad ls' n ((lv.set i (some v)).set (i + 1) none) := by
  refine ⟨h.1, h.2.1, fun j v' hj => ?_⟩
  rw [List.getElem?_set] at hj
  by_cases e0 : i + 1 = j
  · rw [if_pos e0] at hj
    split at hj
    · cases hj
    · cases hj
  rw [if_neg e0, List.getElem?_set] at hj
  by_cases e : i = j
  · subst e
    rw [if_pos rfl] at hj
    split at hj
    · have e3 : v = v' := Option.some.inj (Option.some.inj hj)
      rw [← e3]
      exact h.2.2 (i, vm_re ad v) List.mem_cons_self
    · cases hj
  · rw [if_neg e] at hj
    refine h.2.2 (j, vm_re ad v') (List.mem_cons_of_mem _ (List.mem_filter.mpr ⟨vm_tl_in hj, ?_⟩))
    have h1 : (j == i) = false := by simpa using (fun q : j = i => e q.symm)
    have h0 : (j == i + 1) = false := by simpa using (fun q : j = i + 1 => e0 q.symm)
    by_cases e2 : j + 1 = i
    · subst e2
      have h3 : (v'.category != 2) = true := by
        have h9 : (match lv[j]? with
          | some (some v) => v.category != 2
          | _ => true) = true := hk
        rw [hj] at h9
        exact h9
      have h4 : (v'.category == 2) = false := by simpa using h3
      simp [vm_re_cat, h4]
      omega
    · have h5 : (j + 1 == i) = false := by simpa using e2
      simp [h1, h5, h0]
theorem v_istore {i : Nat} {x : Int32} (hd : vm_at M.2.1 pc (.istore i) 2 pc') (hn : i < M.2.2.1) (hk : vm_ok1 lv i = true) (k : V M D pc' (lv.set i (some (.int x))) st σ Q) : V M D pc lv (.int x :: st) σ Q := by
  obtain ⟨hd, rfl⟩ := hd
  intro p l e s m args below meth c G ad tc sz C ls H locs hl hP hS
  exact lv_istore C.1 C.2.1 hd hl.has hn rfl (fun ls1 h1 => k p l e s m args below meth c G ad tc sz C ls1 H locs (vm_LH.st1 hk h1) hP hS)
theorem v_istore_n {j : Fin 4} {i : Nat} {x : Int32} (hd : vm_at M.2.1 pc (.istore_n j) 1 pc' ∧ (j : Nat) = i) (hn : i < M.2.2.1) (hk : vm_ok1 lv i = true) (k : V M D pc' (lv.set i (some (.int x))) st σ Q) : V M D pc lv (.int x :: st) σ Q := by
  obtain ⟨⟨hd, rfl⟩, hj⟩ := hd
  intro p l e s m args below meth c G ad tc sz C ls H locs hl hP hS
  exact lv_istore_n C.1 C.2.1 hd hj hl.has hn rfl (fun ls1 h1 => k p l e s m args below meth c G ad tc sz C ls1 H locs (vm_LH.st1 hk h1) hP hS)
theorem v_astore {i : Nat} {x : Nat} (hd : vm_at M.2.1 pc (.astore i) 2 pc') (hn : i < M.2.2.1) (hk : vm_ok1 lv i = true) (k : V M D pc' (lv.set i (some (.ref x))) st σ Q) : V M D pc lv (.ref x :: st) σ Q := by
  obtain ⟨hd, rfl⟩ := hd
  intro p l e s m args below meth c G ad tc sz C ls H locs hl hP hS
  exact lv_astore C.1 C.2.1 hd hl.has hn rfl (fun ls1 h1 => k p l e s m args below meth c G ad tc sz C ls1 H locs (vm_LH.st1 hk h1) hP hS)
theorem v_astore_n {j : Fin 4} {i : Nat} {x : Nat} (hd : vm_at M.2.1 pc (.astore_n j) 1 pc' ∧ (j : Nat) = i) (hn : i < M.2.2.1) (hk : vm_ok1 lv i = true) (k : V M D pc' (lv.set i (some (.ref x))) st σ Q) : V M D pc lv (.ref x :: st) σ Q := by
  obtain ⟨⟨hd, rfl⟩, hj⟩ := hd
  intro p l e s m args below meth c G ad tc sz C ls H locs hl hP hS
  exact lv_astore_n C.1 C.2.1 hd hj hl.has hn rfl (fun ls1 h1 => k p l e s m args below meth c G ad tc sz C ls1 H locs (vm_LH.st1 hk h1) hP hS)
theorem v_lstore {i : Nat} {x : Int64} (hd : vm_at M.2.1 pc (.lstore i) 2 pc') (hn : i + 1 < M.2.2.1) (hk : vm_ok1 lv i = true) (k : V M D pc' ((lv.set i (some (.long x))).set (i + 1) none) st σ Q) : V M D pc lv (.long x :: st) σ Q := by
  obtain ⟨hd, rfl⟩ := hd
  intro p l e s m args below meth c G ad tc sz C ls H locs hl hP hS
  exact lv_lstore C.1 C.2.1 hd hl.has hn rfl (fun ls1 h1 => k p l e s m args below meth c G ad tc sz C ls1 H locs (vm_LH.st2 hk h1) hP hS)
theorem v_lstore_n {j : Fin 4} {i : Nat} {x : Int64} (hd : vm_at M.2.1 pc (.lstore_n j) 1 pc' ∧ (j : Nat) = i) (hn : i + 1 < M.2.2.1) (hk : vm_ok1 lv i = true) (k : V M D pc' ((lv.set i (some (.long x))).set (i + 1) none) st σ Q) : V M D pc lv (.long x :: st) σ Q := by
  obtain ⟨⟨hd, rfl⟩, hj⟩ := hd
  intro p l e s m args below meth c G ad tc sz C ls H locs hl hP hS
  exact lv_lstore_n C.1 C.2.1 hd hj hl.has hn rfl (fun ls1 h1 => k p l e s m args below meth c G ad tc sz C ls1 H locs (vm_LH.st2 hk h1) hP hS)
theorem v_astore_nN {j : Fin 4} {i : Nat} (hd : vm_at M.2.1 pc (.astore_n j) 1 pc' ∧ (j : Nat) = i) (hn : i < M.2.2.1) (hk : vm_ok1 lv i = true) (k : V M D pc' (lv.set i (some .null)) st σ Q) : V M D pc lv (.null :: st) σ Q := by
  obtain ⟨⟨hd, rfl⟩, hj⟩ := hd
  intro p l e s m args below meth c G ad tc sz C ls H locs hl hP hS
  exact lv_astore_nN C.1 C.2.1 hd hj hl.has hn rfl (fun ls1 h1 => k p l e s m args below meth c G ad tc sz C ls1 H locs (vm_LH.st1 hk h1) hP hS)
theorem v_iinc {i : Nat} {n : Int} {x z : Int32} (hd : vm_at M.2.1 pc (.iinc i n) 3 pc' ∧ Int32.ofInt n = z) (hv : lv[i]? = some (some (.int x))) (hn : i < M.2.2.1) (hk : vm_ok1 lv i = true) (k : V M D pc' (lv.set i (some (.int (x + z)))) st σ Q) : V M D pc lv st σ Q := by
  obtain ⟨⟨hd, rfl⟩, rfl⟩ := hd
  intro p l e s m args below meth c G ad tc sz C ls H locs hl hP hS
  obtain ⟨q, hq⟩ := List.getElem?_of_mem (vm_tl_in (ad := ad) hv)
  exact lv_iinc C.1 C.2.1 hd hl.has hq rfl hn rfl (fun ls1 h1 => k p l e s m args below meth c G ad tc sz C ls1 H locs (vm_LH.st1 hk h1) hP hS)
theorem v_if_eq {x : Int32} {off : Int} {tgt : Nat} (hd : vm_br M.2.1 pc (.ifCond .eq off) 3 pc' off tgt) (kt : x = 0 → V M D tgt lv st σ Q) (kf : ¬ x = 0 → V M D pc' lv st σ Q) : V M D pc lv (.int x :: st) σ Q := by
  obtain ⟨hd, rfl, ht⟩ := hd
  intro p l e s m args below meth c G ad tc sz C ls H locs hl hP hS
  exact lv_if_eq C.1 C.2.1 hd ht (fun h => kt h p l e s m args below meth c G ad tc sz C ls H locs hl hP hS) (fun h => kf h p l e s m args below meth c G ad tc sz C ls H locs hl hP hS)
theorem v_icmp_eq {x y : Int32} {off : Int} {tgt : Nat} (hd : vm_br M.2.1 pc (.if_icmp .eq off) 3 pc' off tgt) (kt : x = y → V M D tgt lv st σ Q) (kf : ¬ x = y → V M D pc' lv st σ Q) : V M D pc lv (.int y :: .int x :: st) σ Q := by
  obtain ⟨hd, rfl, ht⟩ := hd
  intro p l e s m args below meth c G ad tc sz C ls H locs hl hP hS
  exact lv_icmp_eq C.1 C.2.1 hd ht (fun h => kt h p l e s m args below meth c G ad tc sz C ls H locs hl hP hS) (fun h => kf h p l e s m args below meth c G ad tc sz C ls H locs hl hP hS)
theorem v_if_ne {x : Int32} {off : Int} {tgt : Nat} (hd : vm_br M.2.1 pc (.ifCond .ne off) 3 pc' off tgt) (kt : ¬ x = 0 → V M D tgt lv st σ Q) (kf : x = 0 → V M D pc' lv st σ Q) : V M D pc lv (.int x :: st) σ Q := by
  obtain ⟨hd, rfl, ht⟩ := hd
  intro p l e s m args below meth c G ad tc sz C ls H locs hl hP hS
  exact lv_if_ne C.1 C.2.1 hd ht (fun h => kt h p l e s m args below meth c G ad tc sz C ls H locs hl hP hS) (fun h => kf h p l e s m args below meth c G ad tc sz C ls H locs hl hP hS)
theorem v_icmp_ne {x y : Int32} {off : Int} {tgt : Nat} (hd : vm_br M.2.1 pc (.if_icmp .ne off) 3 pc' off tgt) (kt : ¬ x = y → V M D tgt lv st σ Q) (kf : x = y → V M D pc' lv st σ Q) : V M D pc lv (.int y :: .int x :: st) σ Q := by
  obtain ⟨hd, rfl, ht⟩ := hd
  intro p l e s m args below meth c G ad tc sz C ls H locs hl hP hS
  exact lv_icmp_ne C.1 C.2.1 hd ht (fun h => kt h p l e s m args below meth c G ad tc sz C ls H locs hl hP hS) (fun h => kf h p l e s m args below meth c G ad tc sz C ls H locs hl hP hS)
theorem v_if_lt {x : Int32} {off : Int} {tgt : Nat} (hd : vm_br M.2.1 pc (.ifCond .lt off) 3 pc' off tgt) (kt : x < 0 → V M D tgt lv st σ Q) (kf : ¬ x < 0 → V M D pc' lv st σ Q) : V M D pc lv (.int x :: st) σ Q := by
  obtain ⟨hd, rfl, ht⟩ := hd
  intro p l e s m args below meth c G ad tc sz C ls H locs hl hP hS
  exact lv_if_lt C.1 C.2.1 hd ht (fun h => kt h p l e s m args below meth c G ad tc sz C ls H locs hl hP hS) (fun h => kf h p l e s m args below meth c G ad tc sz C ls H locs hl hP hS)
theorem v_icmp_lt {x y : Int32} {off : Int} {tgt : Nat} (hd : vm_br M.2.1 pc (.if_icmp .lt off) 3 pc' off tgt) (kt : x < y → V M D tgt lv st σ Q) (kf : ¬ x < y → V M D pc' lv st σ Q) : V M D pc lv (.int y :: .int x :: st) σ Q := by
  obtain ⟨hd, rfl, ht⟩ := hd
  intro p l e s m args below meth c G ad tc sz C ls H locs hl hP hS
  exact lv_icmp_lt C.1 C.2.1 hd ht (fun h => kt h p l e s m args below meth c G ad tc sz C ls H locs hl hP hS) (fun h => kf h p l e s m args below meth c G ad tc sz C ls H locs hl hP hS)
theorem v_if_ge {x : Int32} {off : Int} {tgt : Nat} (hd : vm_br M.2.1 pc (.ifCond .ge off) 3 pc' off tgt) (kt : 0 ≤ x → V M D tgt lv st σ Q) (kf : ¬ 0 ≤ x → V M D pc' lv st σ Q) : V M D pc lv (.int x :: st) σ Q := by
  obtain ⟨hd, rfl, ht⟩ := hd
  intro p l e s m args below meth c G ad tc sz C ls H locs hl hP hS
  exact lv_if_ge C.1 C.2.1 hd ht (fun h => kt h p l e s m args below meth c G ad tc sz C ls H locs hl hP hS) (fun h => kf h p l e s m args below meth c G ad tc sz C ls H locs hl hP hS)
theorem v_icmp_ge {x y : Int32} {off : Int} {tgt : Nat} (hd : vm_br M.2.1 pc (.if_icmp .ge off) 3 pc' off tgt) (kt : y ≤ x → V M D tgt lv st σ Q) (kf : ¬ y ≤ x → V M D pc' lv st σ Q) : V M D pc lv (.int y :: .int x :: st) σ Q := by
  obtain ⟨hd, rfl, ht⟩ := hd
  intro p l e s m args below meth c G ad tc sz C ls H locs hl hP hS
  exact lv_icmp_ge C.1 C.2.1 hd ht (fun h => kt h p l e s m args below meth c G ad tc sz C ls H locs hl hP hS) (fun h => kf h p l e s m args below meth c G ad tc sz C ls H locs hl hP hS)
theorem v_if_gt {x : Int32} {off : Int} {tgt : Nat} (hd : vm_br M.2.1 pc (.ifCond .gt off) 3 pc' off tgt) (kt : 0 < x → V M D tgt lv st σ Q) (kf : ¬ 0 < x → V M D pc' lv st σ Q) : V M D pc lv (.int x :: st) σ Q := by
  obtain ⟨hd, rfl, ht⟩ := hd
  intro p l e s m args below meth c G ad tc sz C ls H locs hl hP hS
  exact lv_if_gt C.1 C.2.1 hd ht (fun h => kt h p l e s m args below meth c G ad tc sz C ls H locs hl hP hS) (fun h => kf h p l e s m args below meth c G ad tc sz C ls H locs hl hP hS)
theorem v_icmp_gt {x y : Int32} {off : Int} {tgt : Nat} (hd : vm_br M.2.1 pc (.if_icmp .gt off) 3 pc' off tgt) (kt : y < x → V M D tgt lv st σ Q) (kf : ¬ y < x → V M D pc' lv st σ Q) : V M D pc lv (.int y :: .int x :: st) σ Q := by
  obtain ⟨hd, rfl, ht⟩ := hd
  intro p l e s m args below meth c G ad tc sz C ls H locs hl hP hS
  exact lv_icmp_gt C.1 C.2.1 hd ht (fun h => kt h p l e s m args below meth c G ad tc sz C ls H locs hl hP hS) (fun h => kf h p l e s m args below meth c G ad tc sz C ls H locs hl hP hS)
theorem v_if_le {x : Int32} {off : Int} {tgt : Nat} (hd : vm_br M.2.1 pc (.ifCond .le off) 3 pc' off tgt) (kt : x ≤ 0 → V M D tgt lv st σ Q) (kf : ¬ x ≤ 0 → V M D pc' lv st σ Q) : V M D pc lv (.int x :: st) σ Q := by
  obtain ⟨hd, rfl, ht⟩ := hd
  intro p l e s m args below meth c G ad tc sz C ls H locs hl hP hS
  exact lv_if_le C.1 C.2.1 hd ht (fun h => kt h p l e s m args below meth c G ad tc sz C ls H locs hl hP hS) (fun h => kf h p l e s m args below meth c G ad tc sz C ls H locs hl hP hS)
theorem v_icmp_le {x y : Int32} {off : Int} {tgt : Nat} (hd : vm_br M.2.1 pc (.if_icmp .le off) 3 pc' off tgt) (kt : x ≤ y → V M D tgt lv st σ Q) (kf : ¬ x ≤ y → V M D pc' lv st σ Q) : V M D pc lv (.int y :: .int x :: st) σ Q := by
  obtain ⟨hd, rfl, ht⟩ := hd
  intro p l e s m args below meth c G ad tc sz C ls H locs hl hP hS
  exact lv_icmp_le C.1 C.2.1 hd ht (fun h => kt h p l e s m args below meth c G ad tc sz C ls H locs hl hP hS) (fun h => kf h p l e s m args below meth c G ad tc sz C ls H locs hl hP hS)
theorem v_goto {off : Int} {tgt : Nat} (hd : vm_br M.2.1 pc (.goto off) 3 pc' off tgt) (k : V M D tgt lv st σ Q) : V M D pc lv st σ Q := by
  obtain ⟨hd, rfl, ht⟩ := hd
  intro p l e s m args below meth c G ad tc sz C ls H locs hl hP hS
  exact lv_goto C.1 C.2.1 hd ht (k p l e s m args below meth c G ad tc sz C ls H locs hl hP hS)
theorem v_ifnonnull {x : Nat} {off : Int} {tgt : Nat} (hd : vm_br M.2.1 pc (.ifnonnull off) 3 pc' off tgt) (k : V M D tgt lv st σ Q) : V M D pc lv (.ref x :: st) σ Q := by
  obtain ⟨hd, rfl, ht⟩ := hd
  intro p l e s m args below meth c G ad tc sz C ls H locs hl hP hS
  exact lv_ifnonnull C.1 C.2.1 hd ht (k p l e s m args below meth c G ad tc sz C ls H locs hl hP hS)
theorem v_ifnonnullN {off : Int} {tgt : Nat} (hd : vm_br M.2.1 pc (.ifnonnull off) 3 pc' off tgt) (k : V M D pc' lv st σ Q) : V M D pc lv (.null :: st) σ Q := by
  obtain ⟨hd, rfl, ht⟩ := hd
  intro p l e s m args below meth c G ad tc sz C ls H locs hl hP hS
  exact lv_ifnonnullN C.1 C.2.1 hd (k p l e s m args below meth c G ad tc sz C ls H locs hl hP hS)
theorem v_tableOut {dflt lo hi : Int} {offs : Array Int} {len tgt : Nat} {x : Int32} (hd : decode M.2.1 pc = .ok (.tableswitch dflt lo hi offs, len)) (h : x.toInt < lo ∨ hi < x.toInt) (ht : (pc : Int) + dflt = (tgt : Int)) (k : V M D tgt lv st σ Q) : V M D pc lv (.int x :: st) σ Q := by
  intro p l e s m args below meth c G ad tc sz C ls H locs hl hP hS
  exact lv_tableOut C.1 C.2.1 hd h ht (k p l e s m args below meth c G ad tc sz C ls H locs hl hP hS)
theorem v_tableIn {dflt lo hi : Int} {offs : Array Int} {len tgt : Nat} {x : Int32} {off : Int} (hd : decode M.2.1 pc = .ok (.tableswitch dflt lo hi offs, len)) (h1 : ¬ x.toInt < lo) (h2 : ¬ hi < x.toInt) (ho : offs[(x.toInt - lo).toNat]? = some off) (ht : (pc : Int) + off = (tgt : Int)) (k : V M D tgt lv st σ Q) : V M D pc lv (.int x :: st) σ Q := by
  intro p l e s m args below meth c G ad tc sz C ls H locs hl hP hS
  exact lv_tableIn C.1 C.2.1 hd h1 h2 ho ht (k p l e s m args below meth c G ad tc sz C ls H locs hl hP hS)
end VMR
end
section
/-! fields -/
def vm_clOK (ci : Nat) (C : String) (T : u_T) (N : Nat) (ty : Nat → FieldType) : Prop := classes[ci]? = some (C, T, N) ∧ N = vm_N ci ∧ (∀ w ∈ u_ws C T N, w ∈ vm_gd) ∧ (∀ k, k < N → parseFieldDescriptor (T k).2.2.1 = some (ty k)) ∧ ∀ a, a < N → ∀ b, b < N → a ≠ b → (T a).2.1 ≠ (T b).2.1
theorem vm_lays_in {C : String} {T : u_T} {N : Nat} (h : (u_ws C T N).all (fun w => lw_tbl.contains w && goodWord w) = true) : ∀ w ∈ u_ws C T N, w ∈ vm_gd := by
  intro w hw
  have h1 := List.all_eq_true.mp h w hw
  rw [Bool.and_eq_true] at h1
  exact vm_gd_in (List.contains_iff_mem.mp h1.1) h1.2
theorem vm_cl0 : vm_clOK 0 RX0 TX0 (vm_N 0) tyX0 := ⟨rfl, rfl, vm_lays_in (by decide +kernel), tyX0_ok, nmX0⟩
theorem vm_cl1 : vm_clOK 1 RX1 TX1 (vm_N 1) tyX1 := ⟨rfl, rfl, vm_lays_in (by decide +kernel), tyX1_ok, nmX1⟩
theorem vm_cl2 : vm_clOK 2 RX2 TX2 (vm_N 2) tyX2 := ⟨rfl, rfl, vm_lays_in (by decide +kernel), tyX2_ok, nmX2⟩
theorem vm_cl3 : vm_clOK 3 RX3 TX3 (vm_N 3) tyX3 := ⟨rfl, rfl, vm_lays_in (by decide +kernel), tyX3_ok, nmX3⟩
theorem vm_cl4 : vm_clOK 4 RX4 TX4 (vm_N 4) tyX4 := ⟨rfl, rfl, vm_lays_in (by decide +kernel), tyX4_ok, nmX4⟩
theorem vm_cl5 : vm_clOK 5 RX5 TX5 (vm_N 5) tyX5 := ⟨rfl, rfl, vm_lays_in (by decide +kernel), tyX5_ok, nmX5⟩
theorem vm_cl6 : vm_clOK 6 RX6 TX6 (vm_N 6) tyX6 := ⟨rfl, rfl, vm_lays_in (by decide +kernel), tyX6_ok, nmX6⟩
theorem vm_cl7 : vm_clOK 7 RX7 TX7 (vm_N 7) tyX7 := ⟨rfl, rfl, vm_lays_in (by decide +kernel), tyX7_ok, nmX7⟩
theorem vm_cl8 : vm_clOK 8 RX8 TX8 (vm_N 8) tyX8 := ⟨rfl, rfl, vm_lays_in (by decide +kernel), tyX8_ok, nmX8⟩
theorem vm_cl9 : vm_clOK 9 RX9 TX9 (vm_N 9) tyX9 := ⟨rfl, rfl, vm_lays_in (by decide +kernel), tyX9_ok, nmX9⟩
theorem vm_cl10 : vm_clOK 10 RX10 TX10 (vm_N 10) tyX10 := ⟨rfl, rfl, vm_lays_in (by decide +kernel), tyX10_ok, nmX10⟩
theorem vm_cl11 : vm_clOK 11 RX11 TX11 (vm_N 11) tyX11 := ⟨rfl, rfl, vm_lays_in (by decide +kernel), tyX11_ok, nmX11⟩
theorem vm_cl12 : vm_clOK 12 RX12 TX12 (vm_N 12) tyX12 := ⟨rfl, rfl, vm_lays_in (by decide +kernel), tyX12_ok, nmX12⟩
def vm_FL (own : String) (ix ci j : Nat) : Prop := ∃ (C : String) (T : u_T) (N : Nat) (ty : Nat → FieldType), vm_clOK ci C T N ty ∧ j < N ∧ ((Cond.fieldLink own ix (T j).1 (T j).2.1 (T j).2.2.1 ∈ lw_tbl) ∨ ∃ host : String, Cond.fieldLinkNest own ix (T j).1 (T j).2.1 (T j).2.2.1 host ∈ lw_tbl)
def vm_FP (own : String) (ix ci j : Nat) (fty : FieldType) : Prop := ∃ (C : String) (T : u_T) (N : Nat) (ty : Nat → FieldType), vm_clOK ci C T N ty ∧ j < N ∧ (T j).2.2.2 = false ∧ ty j = fty ∧ ((Cond.fieldLink own ix (T j).1 (T j).2.1 (T j).2.2.1 ∈ lw_tbl) ∨ ∃ host : String, Cond.fieldLinkNest own ix (T j).1 (T j).2.1 (T j).2.2.1 host ∈ lw_tbl)
def vm_setF (σ : Wd) (k j : Nat) (v : Value) : Wd := (fun a b => if a = k ∧ b = j then v else σ.1 a b, σ.2)
def vm_setA (σ : Wd) (k i : Nat) (x : Int32) : Wd := (σ.1, fun a b => if a = k ∧ b = i then x else σ.2.1 a b, σ.2.2)
def vm_setL (σ : Wd) (k i : Nat) (x : Int64) : Wd := (σ.1, σ.2.1, fun a b => if a = k ∧ b = i then x else σ.2.2 a b)
theorem vm_e_F {ad : Nat → Nat} {tc : ClassId × ClassId × ClassId} {σ : Wd} {k j ci : Nat} {v : Value} (hj : j < vm_N ci) : vm_e ad tc (vm_setF σ k j v) k (0, ci) = .inr (ci, ((List.range (vm_N ci)).map (fun j => vm_re ad (σ.1 k j))).set j (vm_re ad v)) := by
  show (Sum.inr (ci, (List.range (vm_N ci)).map (fun b => vm_re ad (if k = k ∧ b = j then v else σ.1 k b))) : va_E) = _
  congr 2
  apply List.ext_getElem?
  intro i
  rw [List.getElem?_set, List.length_map, List.length_range, List.getElem?_map, List.getElem?_map]
  by_cases hi : j = i
  · subst hi
    rw [if_pos rfl, if_pos hj, List.getElem?_range hj]
    simp
  · rw [if_neg hi]
    by_cases h2 : i < vm_N ci
    · rw [List.getElem?_range h2]
      simp [show ¬ i = j from fun e => hi e.symm]
    · rw [List.getElem?_eq_none (by rw [List.length_range]; omega)]
      rfl
theorem vm_e_Fo {ad : Nat → Nat} {tc : ClassId × ClassId × ClassId} {σ : Wd} {k j : Nat} {v : Value} (a : Nat) (q : Nat × Nat) (h : a ≠ k) : vm_e ad tc (vm_setF σ k j v) a q = vm_e ad tc σ a q := by
  have e : ∀ b, (vm_setF σ k j v).1 a b = σ.1 a b := fun b => by simp [vm_setF, h]
  unfold vm_e
  split <;> (try simp only [e]) <;> rfl
theorem vm_e_Ao {ad : Nat → Nat} {tc : ClassId × ClassId × ClassId} {σ : Wd} {k j : Nat} {v : Int32} (a : Nat) (q : Nat × Nat) (h : a ≠ k) : vm_e ad tc (vm_setA σ k j v) a q = vm_e ad tc σ a q := by
  have e : (vm_setA σ k j v).2.1 a = σ.2.1 a := funext fun b => by simp [vm_setA, h]
  unfold vm_e
  split <;> (try simp only [e]) <;> rfl
theorem vm_e_Lo {ad : Nat → Nat} {tc : ClassId × ClassId × ClassId} {σ : Wd} {k j : Nat} {v : Int64} (a : Nat) (q : Nat × Nat) (h : a ≠ k) : vm_e ad tc (vm_setL σ k j v) a q = vm_e ad tc σ a q := by
  have e : (vm_setL σ k j v).2.2 a = σ.2.2 a := funext fun b => by simp [vm_setL, h]
  unfold vm_e
  split <;> (try simp only [e]) <;> rfl
theorem vm_upd (σ : Wd) (k i : Nat) (x : Int32) : (vm_setA σ k i x).2.1 k = upd (σ.2.1 k) i x := by
  funext b
  simp [vm_setA, upd]
theorem vm_updL (σ : Wd) (k i : Nat) (x : Int64) : (vm_setL σ k i x).2.2 k = vp_updL (σ.2.2 k) i x := by
  funext b
  simp [vm_setL, vp_updL]
section VMF
variable {M : MI} {D pc pc' : Nat} {lv : List (Option Value)} {st : List Value} {σ : Wd} {Q : Option Value → Wd → Prop}
theorem v_get {k j ci ix : Nat} (hd : vm_at M.2.1 pc (.getfield ix) 3 pc') (hf : vm_FL M.1.cls ix ci j) (hk : vm_lay[k]? = some (0, ci)) (kk : V M D pc' lv (σ.1 k j :: st) σ Q) : V M D pc lv (.ref k :: st) σ Q := by
  obtain ⟨hd, rfl⟩ := hd
  intro p l e s m args below meth c G ad tc sz C ls H locs hl hP hS
  obtain ⟨CC, T, N, ty, ⟨hc, hN, hin, hty, hnm⟩, hj, hw⟩ := hf
  have hg := vm_cells_get (ad := ad) (tc := tc) (σ := σ) hk
  have hv : ((List.range (vm_N ci)).map (fun j => vm_re ad (σ.1 k j)))[j]? = some (vm_re ad (σ.1 k j)) := by
    rw [List.getElem?_map, List.getElem?_range (by rw [← hN]; exact hj)]
    rfl
  have kk := kk p l e s m args below meth c G ad tc sz C ls H locs hl hP hS
  obtain ⟨hx, hb, hr, hml, hown, hts, hlocks, hinj, hsz, hK, hNw, hStr⟩ := C
  rcases hw with hw | ⟨host, hw⟩
  · exact va_get hx hb hts hin hown hK hP k hg hc j hj (hts _ (vm_gd_in hw rfl)) (fun _ h => h) hv hd kk
  · exact va_getN hx hb hts hin hown hK hP k hg hc j hj (va_Nw.use rfl (hNw _ (vm_nt_in hw rfl))) (fun _ h => h) hv hd kk
theorem v_put {k j ci ix : Nat} {fty : FieldType} {v : Value} (hd : vm_at M.2.1 pc (.putfield ix) 3 pc') (hf : vm_FP M.1.cls ix ci j fty) (hk : vm_lay[k]? = some (0, ci)) (hn : narrow fty v = v) (hfit : fits fty v = true) (kk : V M D pc' lv st (vm_setF σ k j v) Q) : V M D pc lv (v :: .ref k :: st) σ Q := by
  obtain ⟨hd, rfl⟩ := hd
  intro p l e s m args below meth c G ad tc sz C ls H locs hl hP hS
  obtain ⟨CC, T, N, ty, ⟨hc, hN, hin, hty, hnm⟩, hj, hfin, hft, hw⟩ := hf
  have hg := vm_cells_get (ad := ad) (tc := tc) (σ := σ) hk
  have hpd : parseFieldDescriptor (T j).2.2.1 = some fty := by rw [hty j hj, hft]
  have hset : (vm_cells ad tc σ).set k (ad k, .inr (ci, ((List.range (vm_N ci)).map (fun j => vm_re ad (σ.1 k j))).set j (vm_re ad v))) = vm_cells ad tc (vm_setF σ k j v) := by
    rw [← vm_cells_set (σ' := vm_setF σ k j v) hk (fun a q h => vm_e_Fo a q h), vm_e_F (by rw [← hN]; exact hj)]
  have hlen : j < ((List.range (vm_N ci)).map (fun j => vm_re ad (σ.1 k j))).length := by rw [List.length_map, List.length_range, ← hN]; exact hj
  have kk : ∀ (H1 : Heap) (locs1 : List Loc), va_P G classes ((vm_cells ad tc σ).set k (ad k, .inr (ci, ((List.range (vm_N ci)).map (fun j => vm_re ad (σ.1 k j))).set j (vm_re ad v)))) H1 → va_D (vm_A ad sz) ((vm_cells ad tc σ).set k (ad k, .inr (ci, ((List.range (vm_N ci)).map (fun j => vm_re ad (σ.1 k j))).set j (vm_re ad v)))) → va_S (vm_A ad sz) s.heap H1 locs1 → _ :=
    fun H1 locs1 h1 _ h3 => kk p l e s m args below meth c G ad tc sz C ls H1 locs1 hl (by rw [← hset]; exact h1) h3
  obtain ⟨hx, hb, hr, hml, hown, hts, hlocks, hinj, hsz, hK, hNw, hStr⟩ := C
  rcases hw with hw | ⟨host, hw⟩
  · exact va_put hx hb hts hin ty hty hnm hown hK hP (vm_D hinj) hS k hg hc j hj (hts _ (vm_gd_in hw rfl)) (fun _ h => h) hfin hpd (vm_re_nar hn) (vm_re_fit hfit) hlen hd kk
  · exact va_putN hx hb hts hin ty hty hnm hown hK hP (vm_D hinj) hS k hg hc j hj (va_Nw.use rfl (hNw _ (vm_nt_in hw rfl))) (fun _ h => h) hfin hpd (vm_re_nar hn) (vm_re_fit hfit) hlen hd kk
theorem v_iaload {k n : Nat} {i : Int32} (hd : vm_at M.2.1 pc .iaload 1 pc') (hk : vm_lay[k]? = some (1, n)) (hi : vp_in i n) (kk : V M D pc' lv (.int (σ.2.1 k i.toNatClampNeg) :: st) σ Q) : V M D pc lv (.int i :: .ref k :: st) σ Q := by
  obtain ⟨hd, rfl⟩ := hd
  intro p l e s m args below meth c G ad tc sz C ls H locs hl hP hS
  have kk := kk p l e s m args below meth c G ad tc sz C ls H locs hl hP hS
  obtain ⟨hx, hb, hr, hml, hown, hts, hlocks, hinj, hsz, hK, hNw, hStr⟩ := C
  exact va_iald hx hb hK hP k 0 (vm_cells_get hk) rfl hi hd kk
theorem v_laload {k n : Nat} {i : Int32} (hd : vm_at M.2.1 pc .laload 1 pc') (hk : vm_lay[k]? = some (2, n)) (hi : vp_in i n) (kk : V M D pc' lv (.long (σ.2.2 k i.toNatClampNeg) :: st) σ Q) : V M D pc lv (.int i :: .ref k :: st) σ Q := by
  obtain ⟨hd, rfl⟩ := hd
  intro p l e s m args below meth c G ad tc sz C ls H locs hl hP hS
  have kk := kk p l e s m args below meth c G ad tc sz C ls H locs hl hP hS
  obtain ⟨hx, hb, hr, hml, hown, hts, hlocks, hinj, hsz, hK, hNw, hStr⟩ := C
  exact va_lald hx hb hK hP k 1 (vm_cells_get hk) rfl hi hd kk
theorem v_baload {k n : Nat} {i : Int32} (hd : vm_at M.2.1 pc .baload 1 pc') (hk : vm_lay[k]? = some (3, n)) (hi : vp_in i n) (kk : V M D pc' lv (.int (σ.2.1 k i.toNatClampNeg) :: st) σ Q) : V M D pc lv (.int i :: .ref k :: st) σ Q := by
  obtain ⟨hd, rfl⟩ := hd
  intro p l e s m args below meth c G ad tc sz C ls H locs hl hP hS
  have kk := kk p l e s m args below meth c G ad tc sz C ls H locs hl hP hS
  obtain ⟨hx, hb, hr, hml, hown, hts, hlocks, hinj, hsz, hK, hNw, hStr⟩ := C
  exact va_zald hx hb hK hP k 2 (vm_cells_get hk) rfl hi hd kk
theorem v_alen {k n t : Nat} {v : Int32} (hd : vm_at M.2.1 pc .arraylength 1 pc') (hk : vm_lay[k]? = some (t + 1, n)) (ht : t < 3) (hv : Int32.ofNat n = v) (kk : V M D pc' lv (.int v :: st) σ Q) : V M D pc lv (.ref k :: st) σ Q := by
  obtain ⟨hd, rfl⟩ := hd
  intro p l e s m args below meth c G ad tc sz C ls H locs hl hP hS
  have kk := kk p l e s m args below meth c G ad tc sz C ls H locs hl hP hS
  obtain ⟨hx, hb, hr, hml, hown, hts, hlocks, hinj, hsz, hK, hNw, hStr⟩ := C
  have hg := vm_cells_get (ad := ad) (tc := tc) (σ := σ) hk
  match t, ht, hg with
  | 0, _, hg => exact va_alen hx hb hK hP k 0 hg (ty := .int) rfl hv hd kk
  | 1, _, hg => exact va_alen hx hb hK hP k 1 hg (ty := .long) rfl hv hd kk
  | 2, _, hg => exact va_alen hx hb hK hP k 2 hg (ty := .boolean) rfl hv hd kk
theorem v_iastore {k n : Nat} {i x : Int32} (hd : vm_at M.2.1 pc .iastore 1 pc') (hk : vm_lay[k]? = some (1, n)) (hi : vp_in i n) (kk : V M D pc' lv st (vm_setA σ k i.toNatClampNeg x) Q) : V M D pc lv (.int x :: .int i :: .ref k :: st) σ Q := by
  obtain ⟨hd, rfl⟩ := hd
  intro p l e s m args below meth c G ad tc sz C ls H locs hl hP hS
  have hset : (vm_cells ad tc σ).set k (ad k, .inl (tc.1, n, .inl (upd (σ.2.1 k) i.toNatClampNeg x))) = vm_cells ad tc (vm_setA σ k i.toNatClampNeg x) := by
    rw [← vm_cells_set (σ' := vm_setA σ k i.toNatClampNeg x) hk (fun a q h => vm_e_Ao a q h), ← vm_upd]; rfl
  have kk := fun (H1 : Heap) (locs1 : List Loc) (h1 : va_P G classes ((vm_cells ad tc σ).set k (ad k, .inl (tc.1, n, .inl (upd (σ.2.1 k) i.toNatClampNeg x)))) H1) (_ : va_D (vm_A ad sz) ((vm_cells ad tc σ).set k (ad k, .inl (tc.1, n, .inl (upd (σ.2.1 k) i.toNatClampNeg x))))) (h3 : va_S (vm_A ad sz) s.heap H1 locs1) =>
    kk p l e s m args below meth c G ad tc sz C ls H1 locs1 hl (by rw [← hset]; exact h1) h3
  obtain ⟨hx, hb, hr, hml, hown, hts, hlocks, hinj, hsz, hK, hNw, hStr⟩ := C
  exact va_iast hx hb hK hP (vm_D hinj) hS k 0 (vm_cells_get hk) rfl hi hd kk
theorem v_lastore {k n : Nat} {i : Int32} {x : Int64} (hd : vm_at M.2.1 pc .lastore 1 pc') (hk : vm_lay[k]? = some (2, n)) (hi : vp_in i n) (kk : V M D pc' lv st (vm_setL σ k i.toNatClampNeg x) Q) : V M D pc lv (.long x :: .int i :: .ref k :: st) σ Q := by
  obtain ⟨hd, rfl⟩ := hd
  intro p l e s m args below meth c G ad tc sz C ls H locs hl hP hS
  have hset : (vm_cells ad tc σ).set k (ad k, .inl (tc.2.1, n, .inr (.inl (vp_updL (σ.2.2 k) i.toNatClampNeg x)))) = vm_cells ad tc (vm_setL σ k i.toNatClampNeg x) := by
    rw [← vm_cells_set (σ' := vm_setL σ k i.toNatClampNeg x) hk (fun a q h => vm_e_Lo a q h), ← vm_updL]; rfl
  have kk := fun (H1 : Heap) (locs1 : List Loc) (h1 : va_P G classes ((vm_cells ad tc σ).set k (ad k, .inl (tc.2.1, n, .inr (.inl (vp_updL (σ.2.2 k) i.toNatClampNeg x))))) H1) (_ : va_D (vm_A ad sz) ((vm_cells ad tc σ).set k (ad k, .inl (tc.2.1, n, .inr (.inl (vp_updL (σ.2.2 k) i.toNatClampNeg x)))))) (h3 : va_S (vm_A ad sz) s.heap H1 locs1) =>
    kk p l e s m args below meth c G ad tc sz C ls H1 locs1 hl (by rw [← hset]; exact h1) h3
  obtain ⟨hx, hb, hr, hml, hown, hts, hlocks, hinj, hsz, hK, hNw, hStr⟩ := C
  exact va_last hx hb hK hP (vm_D hinj) hS k 1 (vm_cells_get hk) rfl hi hd kk
theorem v_bastore {k n : Nat} {i x : Int32} (hd : vm_at M.2.1 pc .bastore 1 pc') (hk : vm_lay[k]? = some (3, n)) (hi : vp_in i n) (kk : V M D pc' lv st (vm_setA σ k i.toNatClampNeg (vp_nar .boolean x)) Q) : V M D pc lv (.int x :: .int i :: .ref k :: st) σ Q := by
  obtain ⟨hd, rfl⟩ := hd
  intro p l e s m args below meth c G ad tc sz C ls H locs hl hP hS
  have hset : (vm_cells ad tc σ).set k (ad k, .inl (tc.2.2, n, .inl (upd (σ.2.1 k) i.toNatClampNeg (vp_nar .boolean x)))) = vm_cells ad tc (vm_setA σ k i.toNatClampNeg (vp_nar .boolean x)) := by
    rw [← vm_cells_set (σ' := vm_setA σ k i.toNatClampNeg (vp_nar .boolean x)) hk (fun a q h => vm_e_Ao a q h), ← vm_upd]; rfl
  have kk := fun (H1 : Heap) (locs1 : List Loc) (h1 : va_P G classes ((vm_cells ad tc σ).set k (ad k, .inl (tc.2.2, n, .inl (upd (σ.2.1 k) i.toNatClampNeg (vp_nar .boolean x))))) H1) (_ : va_D (vm_A ad sz) ((vm_cells ad tc σ).set k (ad k, .inl (tc.2.2, n, .inl (upd (σ.2.1 k) i.toNatClampNeg (vp_nar .boolean x)))))) (h3 : va_S (vm_A ad sz) s.heap H1 locs1) =>
    kk p l e s m args below meth c G ad tc sz C ls H1 locs1 hl (by rw [← hset]; exact h1) h3
  obtain ⟨hx, hb, hr, hml, hown, hts, hlocks, hinj, hsz, hK, hNw, hStr⟩ := C
  exact va_zast hx hb hK hP (vm_D hinj) hS k 2 (vm_cells_get hk) rfl hi hd kk
theorem v_ireturn {ty : FieldType} {v : Int32} (hd : vm_at M.2.1 pc .ireturn 1 pc') (hr : M.2.2.2 = some ty) (hn : narrow ty (.int v) = .int v) (hQ : Q (some (.int v)) σ) : V M D pc lv [.int v] σ Q := by
  obtain ⟨hd, rfl⟩ := hd
  intro p l e s m args below meth c G ad tc sz C ls H locs hl hP hS
  obtain ⟨hx, hb, hr2, hml, hown, hts, hlocks, hinj, hsz, hK⟩ := C
  exact W.zret hx hb (hr2.trans hr) hn (fun t ht hW => ⟨⟨some (.int v), σ, rfl, hQ, by rw [ht]; exact hP⟩, hS.F ht⟩) hS.2.2 hd hlocks
theorem v_lreturn {v : Int64} (hd : vm_at M.2.1 pc .lreturn 1 pc') (hr : M.2.2.2 = some .long) (hQ : Q (some (.long v)) σ) : V M D pc lv [.long v] σ Q := by
  obtain ⟨hd, rfl⟩ := hd
  intro p l e s m args below meth c G ad tc sz C ls H locs hl hP hS
  obtain ⟨hx, hb, hr2, hml, hown, hts, hlocks, hinj, hsz, hK⟩ := C
  exact W.lret hx hb (hr2.trans hr) (fun t ht hW => ⟨⟨some (.long v), σ, rfl, hQ, by rw [ht]; exact hP⟩, hS.F ht⟩) hS.2.2 hd hlocks
theorem v_areturn {cn : String} {v : Value} (hd : vm_at M.2.1 pc .areturn 1 pc') (hr : M.2.2.2 = some (.object cn)) (hv : v = .null ∨ ∃ a, v = .ref a) (hQ : Q (some v) σ) : V M D pc lv [v] σ Q := by
  obtain ⟨hd, rfl⟩ := hd
  intro p l e s m args below meth c G ad tc sz C ls H locs hl hP hS
  obtain ⟨hx, hb, hr2, hml, hown, hts, hlocks, hinj, hsz, hK⟩ := C
  have hv2 : vm_re ad v = .null ∨ ∃ a, vm_re ad v = .ref a := by
    rcases hv with rfl | ⟨a, rfl⟩
    · exact Or.inl rfl
    · exact Or.inr ⟨_, rfl⟩
  exact W.aret hx hb (hr2.trans hr) (Or.inl ⟨_, rfl⟩) hv2 (fun t ht hW => ⟨⟨some v, σ, rfl, hQ, by rw [ht]; exact hP⟩, hS.F ht⟩) hS.2.2 hd hlocks
theorem v_return (hd : vm_at M.2.1 pc .return_ 1 pc') (hr : M.2.2.2 = none) (hQ : Q none σ) : V M D pc lv [] σ Q := by
  obtain ⟨hd, rfl⟩ := hd
  intro p l e s m args below meth c G ad tc sz C ls H locs hl hP hS
  obtain ⟨hx, hb, hr2, hml, hown, hts, hlocks, hinj, hsz, hK⟩ := C
  exact W.vret hx hb (hr2.trans hr) (fun t ht hW => ⟨⟨none, σ, rfl, hQ, by rw [ht]; exact hP⟩, hS.F ht⟩) hS.2.2 hd hlocks
end VMF
end
section
/-! calls -/
def vm_lk (own : String) (ix : Nat) (y : MethodName) : Prop := Cond.methodLink own ix y ∈ lw_tbl ∨ ∃ host : String, Cond.methodLinkNest own ix y host ∈ lw_tbl
def vm_cok (M : MI) (n : Nat) : Prop := Cond.initialized M.1.cls ∈ lw_tbl ∧ Cond.code M.1 M.2.1 M.2.2.1 M.2.2.2 ∈ lw_tbl ∧ (M.1.cls ≠ "java/lang/invoke/MethodHandle" ∧ M.1.cls ≠ "java/lang/invoke/VarHandle" ∧ (parseMethodDescriptor M.1.desc).map (fun d => d.parameters.length) = some n) ∧ M.2.2.1 ≤ 45
def vm_MV (own : String) (ix : Nat) (M : MI) (n : Nat) : Prop := vm_lk own ix M.1 ∧ vm_cok M n ∧ Cond.instanceMethod M.1 ∈ lw_tbl ∧ Cond.selects M.1.cls M.1 M.1 ∈ lw_tbl
def vm_MS (own : String) (ix : Nat) (M : MI) (n : Nat) : Prop := vm_lk own ix M.1 ∧ vm_cok M n ∧ Cond.static M.1 ∈ lw_tbl
theorem vm_map_cat (ad : Nat → Nat) (st : List Value) : ((st.map (vm_re ad)).map fun v => v.category) = st.map fun v => v.category := by
  rw [List.map_map]
  exact List.map_congr_left fun v _ => vm_re_cat ad v
section VMK
variable {p : Program} {l : Launch} {e : Env} {R : Room} {s : State} {m : MethodId} {args : Array Value} {below : List Frame} {meth : Method} {c : Code} {H : Heap} {locs : List Loc} {cells slots : Nat} {Z : State → Prop} {G : va_G} {ad : Nat → Nat} {tc : ClassId × ClassId × ClassId} {sz : Nat}
theorem vm_callK {pc : Nat} {ls : Array Slot} {st0 rest : List Value} {a : Array Value} {Q' : Option Value → Wd → Prop} (hr : va_Run p l e R s m args below meth c H locs cells slots 0 0 (F0 m pc ls st0) rest (vm_Q G ad tc H.size Q' a) (vm_A ad H.size)) (hS : va_S (vm_A ad sz) s.heap H locs) (hsz : s.heap.size = sz)
    (kk : ∀ (r : Option Value) (σ' : Wd) (H1 : Heap) (locs1 : List Loc), Q' r σ' → va_P G classes (vm_cells ad tc σ') H1 → va_S (vm_A ad sz) s.heap H1 locs1 → W p l e R s m args below meth c H1 locs1 cells slots Z (F0 m (pc + 3) ls ((r.map (vm_re ad)).toList ++ rest))) : W p l e R s m args below meth c H locs cells slots Z (F0 m pc ls st0) := by
  have hm : ∀ q, vm_A ad H.size q → vm_A ad sz q := fun q h => vm_A_mono (by rw [← hsz]; exact hS.1) h
  intro T hT X
  obtain ⟨v, st₀, t, T', L, h0, X', hL, e1, e2, ⟨⟨r, σ', hv, hq, hP'⟩, hz, hk⟩, st⟩ := hr T hT X
  cases hv
  rw [h0] at hz hk
  obtain ⟨t2, a1, b1⟩ := kk r σ' T'.heap (locs ++ L) hq (by rw [e1]; exact hP')
    ⟨Nat.le_trans hS.1 (by rw [e1]; exact hz), fun q h1 h2 => by rw [e1, hk q (Nat.lt_of_lt_of_le h1 hS.1) (fun z => h2 (hm q z))]; exact hS.2.1 q h1 h2, fun q hq => by
      rcases List.mem_append.mp hq with h | h
      · exact hS.2.2 q h
      · exact hm _ (hL q h)⟩ T' rfl X'
  exact ⟨t2, st t2 a1, b1⟩
/-- the callee's start out of the caller's world -/
theorem vm_P_of {as : List Value} {σ : Wd} (hP : va_P G classes (vm_cells ad tc σ) H) (hS : va_S (vm_A ad sz) s.heap H locs) (hsz : s.heap.size = sz) (hSt : vm_St G ad tc sz s s.heap) : ∀ U : State, U.heap = H → s.WarmedH U.vm → vm_P G ad tc H.size as σ (as.map (vm_re ad)).toArray U := by
  intro U hU hW
  refine ⟨rfl, by rw [hU], by rw [hU]; exact hP, ?_⟩
  rw [hU]
  exact hSt.warm hW (by rw [← hsz]; exact hS.1) (fun q h1 h2 => hS.2.1 q h1 h2)
/-- a call at a place of any frame: static -/
theorem vm_goS {own : String} {ix D n pc nL : Nat} {cc : ByteArray} {M' : MI} {as st : List Value} {σ : Wd} {ls : Array Slot} {Q' : Option Value → Wd → Prop} (hx : p.tables.exec = Jvm.exec) (hb : c.code = cc) (hml : c.maxLocals = nL) (hown : s.vm.findClass own = some m.cls) (hts : ∀ w ∈ vm_gd, w.before args s = true) (hinj : vm_inj ad) (hsz : s.heap.size = sz) (hSt : vm_St G ad tc sz s s.heap)
    (hls : ls.size = nL) (hP : va_P G classes (vm_cells ad tc σ) H) (hS : va_S (vm_A ad sz) s.heap H locs) (hM : vm_MS own ix M' n) (hn : as.length = n) (hd : decode cc pc = .ok (.invokestatic ix, 3)) (hcat : (st.map fun v => v.category).sum ≤ 8) (hR : D + 1 ≤ R.frames ∧ 64 * D + 64 ≤ R.locals ∧ cells ≤ R.cells ∧ slots ≤ R.slots) (ho : Ok D M' as σ Q')
    (kk : ∀ (r : Option Value) (σ' : Wd) (H1 : Heap) (locs1 : List Loc), Q' r σ' → va_P G classes (vm_cells ad tc σ') H1 → va_S (vm_A ad sz) s.heap H1 locs1 → W p l e R s m args below meth c H1 locs1 cells slots Z (F0 m (pc + 3) ls ((r.map (vm_re ad)).toList ++ st.map (vm_re ad)))) :
    W p l e R s m args below meth c H locs cells slots Z (F0 m pc ls ((as.reverse ++ st).map (vm_re ad))) := by
  obtain ⟨hlk, ⟨hini, hcode, hnm, hml'⟩, hst⟩ := hM
  have hG := vm_gd_good hcode
  have hini' := hts _ (vm_gd_in hini rfl)
  have hst' := hts _ (vm_gd_in hst rfl)
  have hrm : (vm_rm D).frames + 1 ≤ R.frames ∧ 8 + (M'.2.2.1 + 11) + (vm_rm D).locals ≤ R.locals := ⟨hR.1, by show 8 + (M'.2.2.1 + 11) + 64 * D ≤ R.locals; omega⟩
  have hw8 : 2 * (F0 m pc ls ((as.reverse ++ st).map (vm_re ad))).monitorRoom + ((st.map (vm_re ad)).map fun v => v.category).sum ≤ 8 := lv_room (by rw [vm_map_cat]; exact hcat)
  have hstk : (as.reverse ++ st).map (vm_re ad) = (as.map (vm_re ad)).reverse ++ st.map (vm_re ad) := by rw [List.map_append, List.map_reverse]
  refine vm_callK (a := (as.map (vm_re ad)).toArray) ?_ hS hsz kk
  rcases hlk with hlk | ⟨host, hlk⟩
  · exact va_runS (As := as.map (vm_re ad)) ⟨hx, hb, hml, hown, hts⟩ (ho l G ad tc H.size hinj) ⟨callB_of n hts hG rfl rfl rfl hini' (hts _ (vm_gd_in hlk rfl)) hnm hrm, hst'⟩ ⟨vm_P_blind, vm_P_of hP hS hsz hSt⟩ rfl (by rw [List.length_map]; exact hn) hls hstk hw8 hd ⟨hR.2.2.1, hR.2.2.2⟩
  · exact va_runSN (As := as.map (vm_re ad)) ⟨hx, hb, hml, hown, hts⟩ (ho l G ad tc H.size hinj) ⟨va_cnB n hts hG rfl rfl rfl (hSt.2.1 _ (vm_nt_in hlk rfl)) hini' hnm hrm, hst', trivial⟩ ⟨vm_P_blind, vm_P_of hP hS hsz hSt⟩ rfl (by rw [List.length_map]; exact hn) hls hstk hw8 hd ⟨hR.2.2.1, hR.2.2.2⟩
theorem vm_goV {own : String} {ix D n pc nL k ci : Nat} {cc : ByteArray} {M' : MI} {as st : List Value} {σ : Wd} {ls : Array Slot} {Q' : Option Value → Wd → Prop} (hx : p.tables.exec = Jvm.exec) (hb : c.code = cc) (hml : c.maxLocals = nL) (hown : s.vm.findClass own = some m.cls) (hts : ∀ w ∈ vm_gd, w.before args s = true) (hinj : vm_inj ad) (hsz : s.heap.size = sz) (hSt : vm_St G ad tc sz s s.heap)
    (hls : ls.size = nL) (hP : va_P G classes (vm_cells ad tc σ) H) (hS : va_S (vm_A ad sz) s.heap H locs) (hM : vm_MV own ix M' n) (hn : as.length = n) (hk : vm_lay[k]? = some (0, ci)) (hci : (classes[ci]?).map (fun q => q.1) = some M'.1.cls) (hd : decode cc pc = .ok (.invokevirtual ix, 3)) (hcat : (st.map fun v => v.category).sum ≤ 8) (hR : D + 1 ≤ R.frames ∧ 64 * D + 64 ≤ R.locals ∧ cells ≤ R.cells ∧ slots ≤ R.slots) (ho : Ok D M' (.ref k :: as) σ Q')
    (kk : ∀ (r : Option Value) (σ' : Wd) (H1 : Heap) (locs1 : List Loc), Q' r σ' → va_P G classes (vm_cells ad tc σ') H1 → va_S (vm_A ad sz) s.heap H1 locs1 → W p l e R s m args below meth c H1 locs1 cells slots Z (F0 m (pc + 3) ls ((r.map (vm_re ad)).toList ++ st.map (vm_re ad)))) :
    W p l e R s m args below meth c H locs cells slots Z (F0 m pc ls ((as.reverse ++ .ref k :: st).map (vm_re ad))) := by
  obtain ⟨hlk, ⟨hini, hcode, hnm, hml'⟩, hin, hsel⟩ := hM
  have hG := vm_gd_good hcode
  have hini' := hts _ (vm_gd_in hini rfl)
  have hin' := hts _ (vm_gd_in hin rfl)
  have hsel' := hts _ (vm_gd_in hsel rfl)
  have hrm : (vm_rm D).frames + 1 ≤ R.frames ∧ 8 + (M'.2.2.1 + 11) + (vm_rm D).locals ≤ R.locals := ⟨hR.1, by show 8 + (M'.2.2.1 + 11) + 64 * D ≤ R.locals; omega⟩
  have hw8 : 2 * (F0 m pc ls ((as.reverse ++ .ref k :: st).map (vm_re ad))).monitorRoom + ((st.map (vm_re ad)).map fun v => v.category).sum ≤ 8 := lv_room (by rw [vm_map_cat]; exact hcat)
  have hstk : (as.reverse ++ .ref k :: st).map (vm_re ad) = (as.map (vm_re ad)).reverse ++ .ref (ad k) :: st.map (vm_re ad) := by rw [List.map_append, List.map_reverse]; rfl
  have hrecv : ∃ cellB : Cell, H[ad k]? = some cellB ∧ cellB.vm.isStatics = false ∧ s.vm.findClass M'.1.cls = some cellB.cls := by
    cases hq : classes[ci]? with
    | none => rw [hq] at hci; cases hci
    | some q =>
      rw [hq] at hci
      have e : q.1 = M'.1.cls := Option.some.inj hci
      rw [← e]
      exact va_recv (ci := ci) hSt.1 hP hq (vm_cells_get hk)
  refine vm_callK (a := (Value.ref (ad k) :: as.map (vm_re ad)).toArray) ?_ hS hsz kk
  rcases hlk with hlk | ⟨host, hlk⟩
  · exact va_runV (C := M'.1.cls) (b := ad k) (As := as.map (vm_re ad)) ⟨hx, hb, hml, hown, hts⟩ (ho l G ad tc H.size hinj) ⟨callB_of n hts hG rfl rfl rfl hini' (hts _ (vm_gd_in hlk rfl)) hnm hrm, hin', hsel'⟩ ⟨vm_P_blind, hrecv, vm_P_of (as := .ref k :: as) hP hS hsz hSt⟩ rfl (by rw [List.length_map]; exact hn) hls hstk hw8 hd ⟨hR.2.2.1, hR.2.2.2⟩
  · exact va_runVN (C := M'.1.cls) (b := ad k) (As := as.map (vm_re ad)) ⟨hx, hb, hml, hown, hts⟩ (ho l G ad tc H.size hinj) ⟨va_cnB n hts hG rfl rfl rfl (hSt.2.1 _ (vm_nt_in hlk rfl)) hini' hnm hrm, hin', hsel'⟩ ⟨vm_P_blind, hrecv, vm_P_of (as := .ref k :: as) hP hS hsz hSt⟩ rfl (by rw [List.length_map]; exact hn) hls hstk hw8 hd ⟨hR.2.2.1, hR.2.2.2⟩
end VMK
section VMM
variable {M : MI} {D pc pc' : Nat} {lv : List (Option Value)} {st : List Value} {σ : Wd} {Q : Option Value → Wd → Prop}
theorem vm_push (ad : Nat → Nat) (r : Option Value) (st : List Value) : (r.toList ++ st).map (vm_re ad) = (r.map (vm_re ad)).toList ++ st.map (vm_re ad) := by cases r <;> rfl
theorem v_callS {ix n : Nat} {M' : MI} {as : List Value} (hd : vm_at M.2.1 pc (.invokestatic ix) 3 pc') (hM : vm_MS M.1.cls ix M' n) (hn : as.length = n) (hcat : (st.map fun v => v.category).sum ≤ 8) (ho : Ok D M' as σ (fun r σ' => V M (D + 1) pc' lv (r.toList ++ st) σ' Q)) : V M (D + 1) pc lv (as.reverse ++ st) σ Q := by
  obtain ⟨hd, rfl⟩ := hd
  intro p l e s m args below meth c G ad tc sz C ls H locs hl hP hS
  obtain ⟨hx, hb, hr, hml, hown, hts, hlocks, hinj, hsz, hSt⟩ := id C
  refine vm_goS hx hb hml hown hts hinj hsz hSt hl.1 hP hS hM hn hd hcat ⟨Nat.le_refl _, by show 64 * D + 64 ≤ 64 * (D + 1); omega, Nat.le_refl _, Nat.le_refl _⟩ ho ?_
  intro r σ' H1 locs1 hq hP1 hS1
  have h := hq p l e s m args below meth c G ad tc sz C ls H1 locs1 hl hP1 hS1
  rw [vm_push] at h
  exact h
theorem v_callV {ix n k ci : Nat} {M' : MI} {as : List Value} (hd : vm_at M.2.1 pc (.invokevirtual ix) 3 pc') (hM : vm_MV M.1.cls ix M' n) (hn : as.length = n) (hk : vm_lay[k]? = some (0, ci)) (hci : (classes[ci]?).map (fun q => q.1) = some M'.1.cls) (hcat : (st.map fun v => v.category).sum ≤ 8) (ho : Ok D M' (.ref k :: as) σ (fun r σ' => V M (D + 1) pc' lv (r.toList ++ st) σ' Q)) : V M (D + 1) pc lv (as.reverse ++ .ref k :: st) σ Q := by
  obtain ⟨hd, rfl⟩ := hd
  intro p l e s m args below meth c G ad tc sz C ls H locs hl hP hS
  obtain ⟨hx, hb, hr, hml, hown, hts, hlocks, hinj, hsz, hSt⟩ := id C
  refine vm_goV hx hb hml hown hts hinj hsz hSt hl.1 hP hS hM hn hk hci hd hcat ⟨Nat.le_refl _, by show 64 * D + 64 ≤ 64 * (D + 1); omega, Nat.le_refl _, Nat.le_refl _⟩ ho ?_
  intro r σ' H1 locs1 hq hP1 hS1
  have h := hq p l e s m args below meth c G ad tc sz C ls H1 locs1 hl hP1 hS1
  rw [vm_push] at h
  exact h
theorem v_callS0 {ix : Nat} {M' : MI} (hd : vm_at M.2.1 pc (.invokestatic ix) 3 pc') (hM : vm_MS M.1.cls ix M' 0) (hcat : (st.map fun v => v.category).sum ≤ 8) (ho : Ok D M' [] σ (fun r σ' => V M (D + 1) pc' lv (r.toList ++ st) σ' Q)) : V M (D + 1) pc lv (st) σ Q := v_callS (as := []) hd hM rfl hcat ho
theorem v_callV0 {ix k ci : Nat} {M' : MI} (hd : vm_at M.2.1 pc (.invokevirtual ix) 3 pc') (hM : vm_MV M.1.cls ix M' 0) (hk : vm_lay[k]? = some (0, ci)) (hci : (classes[ci]?).map (fun q => q.1) = some M'.1.cls) (hcat : (st.map fun v => v.category).sum ≤ 8) (ho : Ok D M' [.ref k] σ (fun r σ' => V M (D + 1) pc' lv (r.toList ++ st) σ' Q)) : V M (D + 1) pc lv (.ref k :: st) σ Q := v_callV (as := []) hd hM rfl hk hci hcat ho
theorem v_callS1 {ix : Nat} {M' : MI} {a1 : Value} (hd : vm_at M.2.1 pc (.invokestatic ix) 3 pc') (hM : vm_MS M.1.cls ix M' 1) (hcat : (st.map fun v => v.category).sum ≤ 8) (ho : Ok D M' [a1] σ (fun r σ' => V M (D + 1) pc' lv (r.toList ++ st) σ' Q)) : V M (D + 1) pc lv (a1 :: st) σ Q := v_callS (as := [a1]) hd hM rfl hcat ho
theorem v_callV1 {ix k ci : Nat} {M' : MI} {a1 : Value} (hd : vm_at M.2.1 pc (.invokevirtual ix) 3 pc') (hM : vm_MV M.1.cls ix M' 1) (hk : vm_lay[k]? = some (0, ci)) (hci : (classes[ci]?).map (fun q => q.1) = some M'.1.cls) (hcat : (st.map fun v => v.category).sum ≤ 8) (ho : Ok D M' [.ref k, a1] σ (fun r σ' => V M (D + 1) pc' lv (r.toList ++ st) σ' Q)) : V M (D + 1) pc lv (a1 :: .ref k :: st) σ Q := v_callV (as := [a1]) hd hM rfl hk hci hcat ho
theorem v_callS2 {ix : Nat} {M' : MI} {a1 a2 : Value} (hd : vm_at M.2.1 pc (.invokestatic ix) 3 pc') (hM : vm_MS M.1.cls ix M' 2) (hcat : (st.map fun v => v.category).sum ≤ 8) (ho : Ok D M' [a1, a2] σ (fun r σ' => V M (D + 1) pc' lv (r.toList ++ st) σ' Q)) : V M (D + 1) pc lv (a2 :: a1 :: st) σ Q := v_callS (as := [a1, a2]) hd hM rfl hcat ho
theorem v_callV2 {ix k ci : Nat} {M' : MI} {a1 a2 : Value} (hd : vm_at M.2.1 pc (.invokevirtual ix) 3 pc') (hM : vm_MV M.1.cls ix M' 2) (hk : vm_lay[k]? = some (0, ci)) (hci : (classes[ci]?).map (fun q => q.1) = some M'.1.cls) (hcat : (st.map fun v => v.category).sum ≤ 8) (ho : Ok D M' [.ref k, a1, a2] σ (fun r σ' => V M (D + 1) pc' lv (r.toList ++ st) σ' Q)) : V M (D + 1) pc lv (a2 :: a1 :: .ref k :: st) σ Q := v_callV (as := [a1, a2]) hd hM rfl hk hci hcat ho
theorem v_callS3 {ix : Nat} {M' : MI} {a1 a2 a3 : Value} (hd : vm_at M.2.1 pc (.invokestatic ix) 3 pc') (hM : vm_MS M.1.cls ix M' 3) (hcat : (st.map fun v => v.category).sum ≤ 8) (ho : Ok D M' [a1, a2, a3] σ (fun r σ' => V M (D + 1) pc' lv (r.toList ++ st) σ' Q)) : V M (D + 1) pc lv (a3 :: a2 :: a1 :: st) σ Q := v_callS (as := [a1, a2, a3]) hd hM rfl hcat ho
theorem v_callV3 {ix k ci : Nat} {M' : MI} {a1 a2 a3 : Value} (hd : vm_at M.2.1 pc (.invokevirtual ix) 3 pc') (hM : vm_MV M.1.cls ix M' 3) (hk : vm_lay[k]? = some (0, ci)) (hci : (classes[ci]?).map (fun q => q.1) = some M'.1.cls) (hcat : (st.map fun v => v.category).sum ≤ 8) (ho : Ok D M' [.ref k, a1, a2, a3] σ (fun r σ' => V M (D + 1) pc' lv (r.toList ++ st) σ' Q)) : V M (D + 1) pc lv (a3 :: a2 :: a1 :: .ref k :: st) σ Q := v_callV (as := [a1, a2, a3]) hd hM rfl hk hci hcat ho
theorem v_callS4 {ix : Nat} {M' : MI} {a1 a2 a3 a4 : Value} (hd : vm_at M.2.1 pc (.invokestatic ix) 3 pc') (hM : vm_MS M.1.cls ix M' 4) (hcat : (st.map fun v => v.category).sum ≤ 8) (ho : Ok D M' [a1, a2, a3, a4] σ (fun r σ' => V M (D + 1) pc' lv (r.toList ++ st) σ' Q)) : V M (D + 1) pc lv (a4 :: a3 :: a2 :: a1 :: st) σ Q := v_callS (as := [a1, a2, a3, a4]) hd hM rfl hcat ho
theorem v_callV4 {ix k ci : Nat} {M' : MI} {a1 a2 a3 a4 : Value} (hd : vm_at M.2.1 pc (.invokevirtual ix) 3 pc') (hM : vm_MV M.1.cls ix M' 4) (hk : vm_lay[k]? = some (0, ci)) (hci : (classes[ci]?).map (fun q => q.1) = some M'.1.cls) (hcat : (st.map fun v => v.category).sum ≤ 8) (ho : Ok D M' [.ref k, a1, a2, a3, a4] σ (fun r σ' => V M (D + 1) pc' lv (r.toList ++ st) σ' Q)) : V M (D + 1) pc lv (a4 :: a3 :: a2 :: a1 :: .ref k :: st) σ Q := v_callV (as := [a1, a2, a3, a4]) hd hM rfl hk hci hcat ho
theorem v_callS5 {ix : Nat} {M' : MI} {a1 a2 a3 a4 a5 : Value} (hd : vm_at M.2.1 pc (.invokestatic ix) 3 pc') (hM : vm_MS M.1.cls ix M' 5) (hcat : (st.map fun v => v.category).sum ≤ 8) (ho : Ok D M' [a1, a2, a3, a4, a5] σ (fun r σ' => V M (D + 1) pc' lv (r.toList ++ st) σ' Q)) : V M (D + 1) pc lv (a5 :: a4 :: a3 :: a2 :: a1 :: st) σ Q := v_callS (as := [a1, a2, a3, a4, a5]) hd hM rfl hcat ho
theorem v_callV5 {ix k ci : Nat} {M' : MI} {a1 a2 a3 a4 a5 : Value} (hd : vm_at M.2.1 pc (.invokevirtual ix) 3 pc') (hM : vm_MV M.1.cls ix M' 5) (hk : vm_lay[k]? = some (0, ci)) (hci : (classes[ci]?).map (fun q => q.1) = some M'.1.cls) (hcat : (st.map fun v => v.category).sum ≤ 8) (ho : Ok D M' [.ref k, a1, a2, a3, a4, a5] σ (fun r σ' => V M (D + 1) pc' lv (r.toList ++ st) σ' Q)) : V M (D + 1) pc lv (a5 :: a4 :: a3 :: a2 :: a1 :: .ref k :: st) σ Q := v_callV (as := [a1, a2, a3, a4, a5]) hd hM rfl hk hci hcat ho
/-! a method's start -/
def vm_arg : List Value → List (Option Value)
  | [] => []
  | v :: vs => if v.category = 2 then some v :: none :: vm_arg vs else some v :: vm_arg vs
theorem vm_arg_in (ad : Nat → Nat) : ∀ (as : List Value) (b i : Nat) (v : Value), (vm_arg as)[i]? = some (some v) → (b + i, vm_re ad v) ∈ lv_args b (as.map (vm_re ad))
  | [], b, i, v, h => by simp [vm_arg] at h
  | a :: as, b, i, v, h => by
    unfold vm_arg at h
    rw [List.map_cons]
    unfold lv_args
    rw [vm_re_cat]
    by_cases hc : a.category = 2
    · rw [if_pos hc] at h ⊢
      match i, h with
      | 0, h =>
        have e : a = v := by simpa using h
        rw [e]
        exact List.mem_cons_self
      | 1, h => simp at h
      | j + 2, h =>
        have h2 : (vm_arg as)[j]? = some (some v) := by simpa using h
        have := vm_arg_in ad as (b + 2) j v h2
        rw [show b + (j + 2) = b + 2 + j by omega]
        exact List.mem_cons_of_mem _ this
    · rw [if_neg hc] at h ⊢
      match i, h with
      | 0, h =>
        have e : a = v := by simpa using h
        rw [e]
        exact List.mem_cons_self
      | j + 1, h =>
        have h2 : (vm_arg as)[j]? = some (some v) := by simpa using h
        have := vm_arg_in ad as (b + 1) j v h2
        rw [show b + (j + 1) = b + 1 + j by omega]
        exact List.mem_cons_of_mem _ this
theorem vm_sl_len (ad : Nat → Nat) : ∀ as : List Value, (lg_sl (as.map (vm_re ad))).length = (vm_arg as).length
  | [] => rfl
  | a :: as => by
    have h := vm_sl_len ad as
    unfold lg_sl at h ⊢
    rw [List.map_cons, List.flatMap_cons, List.length_append, h, vm_re_cat]
    show _ = (if a.category = 2 then some a :: none :: vm_arg as else some a :: vm_arg as).length
    split <;> simp <;> omega
theorem ok_enter {as : List Value} (hy : plainName M.1.cls = true) (hlen : (vm_arg as).length ≤ M.2.2.1) (h : V M D 0 (vm_arg as ++ List.replicate (M.2.2.1 - (vm_arg as).length) none) [] σ Q) : Ok D M as σ Q := by
  intro l G ad tc sz hinj
  refine Met.ofW (cc := M.2.1) (maxL := M.2.2.1) (ret := M.2.2.2) hy rfl ?_
  intro p e s m args below meth c s₁ B hml hv
  obtain ⟨rfl, hsz, hP, hSt⟩ := hv
  have hts := atoms_spec (ws := vm_ws M) B.pre
  have hown : s.vm.findClass M.1.cls = some m.cls := findClass_of_methodNamed B.named
  have hl := lv_entry (as.map (vm_re ad)) (n := M.2.2.1) (by rw [vm_sl_len]; exact hlen)
  rw [lg_entry_eq]
  refine h p l e s m _ below meth c G ad tc sz ⟨B.exec, B.bytes, B.returns, hml, hown, fun w hw => hts w (List.mem_cons_of_mem _ hw), B.notSynchronized, hinj, hsz, hSt⟩ _ s.heap [] ⟨hl.1, hl.2.1, fun i v hi => ?_⟩ hP va_S.rf
  have hi2 : (vm_arg as)[i]? = some (some v) := by
    rw [List.getElem?_append] at hi
    split at hi
    · exact hi
    · rw [List.getElem?_replicate] at hi
      split at hi
      · cases hi
      · cases hi
  have h3 := hl.2.2 (0 + i, vm_re ad v) (vm_arg_in ad as 0 i v hi2)
  rw [Nat.zero_add] at h3
  exact h3
theorem Ok.mono {as : List Value} {Q' : Option Value → Wd → Prop} (h : Ok D M as σ Q) (hq : ∀ r σ', Q r σ' → Q' r σ') : Ok D M as σ Q' := by
  intro l G ad tc sz hinj p e ha hc hk s m args below hf happ hP hK
  obtain ⟨t, o, h1, h2, h3, ⟨⟨r, σ', ho, hqr, hPt⟩, hF⟩, hL⟩ := h l G ad tc sz hinj p e ha hc hk s m args below hf happ hP hK
  exact ⟨t, o, h1, h2, h3, ⟨⟨r, σ', ho, hq r σ' hqr, hPt⟩, hF⟩, hL⟩
theorem V.mono {Q' : Option Value → Wd → Prop} (h : V M D pc lv st σ Q) (hq : ∀ r σ', Q r σ' → Q' r σ') : V M D pc lv st σ Q' := by
  intro p l e s m args below meth c G ad tc sz C ls H locs hl hP hS T hT X
  obtain ⟨t, h1, o, h2, h3, ⟨⟨r, σ', ho, hqr, hPt⟩, hF⟩, hL⟩ := h p l e s m args below meth c G ad tc sz C ls H locs hl hP hS T hT X
  exact ⟨t, h1, o, h2, h3, ⟨⟨r, σ', ho, hq r σ' hqr, hPt⟩, hF⟩, hL⟩
end VMM
end
