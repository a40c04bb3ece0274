/-! base: the words of the tables, classes, methods, links (printed by program: wip/whole/tools/names.py, out of the printed texts of the task) -/
-- ===== PART A: goes FIRST, ahead of the names: the tables' words, and 'selects' of the private methods out of them =====
/-- a private method of a class that the tables say can be made, by its rows of tables_1 -/
def lw_okq (q : MethodName × Nat) : Prop := (q.1.cls ≠ "java/lang/invoke/MethodHandle" ∧ q.1.cls ≠ "java/lang/invoke/VarHandle") ∧ Cond.instantiable q.1.cls q.2 ∈ tables_1 ∧ Cond.privateMethod q.1 ∈ tables_1 ∧ Cond.instanceMethod q.1 ∈ tables_1
theorem lw_p0 : lw_okq (⟨"TriggerStages$Course", "carry", "(IIIIIII)Z"⟩, 11) := ⟨⟨by decide +kernel, by decide +kernel⟩, List.mem_of_getElem? (i := 104) (by decide +kernel), List.mem_of_getElem? (i := 346) (by decide +kernel), List.mem_of_getElem? (i := 347) (by decide +kernel)⟩
theorem lw_p1 : lw_okq (⟨"TriggerStages$Course", "begin", "(IIIIIII)I"⟩, 11) := ⟨⟨by decide +kernel, by decide +kernel⟩, List.mem_of_getElem? (i := 104) (by decide +kernel), List.mem_of_getElem? (i := 374) (by decide +kernel), List.mem_of_getElem? (i := 375) (by decide +kernel)⟩
theorem lw_p2 : lw_okq (⟨"TriggerStages$Course", "isLeftOut", "(I)Z"⟩, 11) := ⟨⟨by decide +kernel, by decide +kernel⟩, List.mem_of_getElem? (i := 104) (by decide +kernel), List.mem_of_getElem? (i := 380) (by decide +kernel), List.mem_of_getElem? (i := 381) (by decide +kernel)⟩
theorem lw_p3 : lw_okq (⟨"TriggerStages$Course", "doStage", "(III)Z"⟩, 11) := ⟨⟨by decide +kernel, by decide +kernel⟩, List.mem_of_getElem? (i := 104) (by decide +kernel), List.mem_of_getElem? (i := 384) (by decide +kernel), List.mem_of_getElem? (i := 385) (by decide +kernel)⟩
theorem lw_p4 : lw_okq (⟨"TriggerStages$Course", "isSetOff", "(III)Z"⟩, 11) := ⟨⟨by decide +kernel, by decide +kernel⟩, List.mem_of_getElem? (i := 104) (by decide +kernel), List.mem_of_getElem? (i := 388) (by decide +kernel), List.mem_of_getElem? (i := 389) (by decide +kernel)⟩
theorem lw_p5 : lw_okq (⟨"TriggerStages$Course", "doDeed", "(III)Z"⟩, 11) := ⟨⟨by decide +kernel, by decide +kernel⟩, List.mem_of_getElem? (i := 104) (by decide +kernel), List.mem_of_getElem? (i := 393) (by decide +kernel), List.mem_of_getElem? (i := 394) (by decide +kernel)⟩
theorem lw_p6 : lw_okq (⟨"TriggerStages$Tables", "insert", "(III)V"⟩, 3) := ⟨⟨by decide +kernel, by decide +kernel⟩, List.mem_of_getElem? (i := 28) (by decide +kernel), List.mem_of_getElem? (i := 401) (by decide +kernel), List.mem_of_getElem? (i := 402) (by decide +kernel)⟩
theorem lw_p7 : lw_okq (⟨"TriggerStages$Tables", "renumber", "(III)V"⟩, 3) := ⟨⟨by decide +kernel, by decide +kernel⟩, List.mem_of_getElem? (i := 28) (by decide +kernel), List.mem_of_getElem? (i := 405) (by decide +kernel), List.mem_of_getElem? (i := 406) (by decide +kernel)⟩
theorem lw_p8 : lw_okq (⟨"TriggerStages$Tables", "remove", "(II)V"⟩, 3) := ⟨⟨by decide +kernel, by decide +kernel⟩, List.mem_of_getElem? (i := 28) (by decide +kernel), List.mem_of_getElem? (i := 409) (by decide +kernel), List.mem_of_getElem? (i := 410) (by decide +kernel)⟩
theorem lw_p9 : lw_okq (⟨"TriggerStages$Course", "noteDone", "(I)V"⟩, 11) := ⟨⟨by decide +kernel, by decide +kernel⟩, List.mem_of_getElem? (i := 104) (by decide +kernel), List.mem_of_getElem? (i := 413) (by decide +kernel), List.mem_of_getElem? (i := 414) (by decide +kernel)⟩
theorem lw_p10 : lw_okq (⟨"TriggerStages$Course", "queueLastStage", "(I)V"⟩, 11) := ⟨⟨by decide +kernel, by decide +kernel⟩, List.mem_of_getElem? (i := 104) (by decide +kernel), List.mem_of_getElem? (i := 417) (by decide +kernel), List.mem_of_getElem? (i := 418) (by decide +kernel)⟩
theorem lw_p11 : lw_okq (⟨"TriggerStages", "takeOver", "()V"⟩, 5) := ⟨⟨by decide +kernel, by decide +kernel⟩, List.mem_of_getElem? (i := 14) (by decide +kernel), List.mem_of_getElem? (i := 425) (by decide +kernel), List.mem_of_getElem? (i := 426) (by decide +kernel)⟩
theorem lw_p12 : lw_okq (⟨"TriggerStages$Triggers", "followersOfAll", "(I)I"⟩, 1) := ⟨⟨by decide +kernel, by decide +kernel⟩, List.mem_of_getElem? (i := 45) (by decide +kernel), List.mem_of_getElem? (i := 474) (by decide +kernel), List.mem_of_getElem? (i := 475) (by decide +kernel)⟩
theorem lw_p13 : lw_okq (⟨"TriggerStages$Pad", "readStatement", "()Z"⟩, 4) := ⟨⟨by decide +kernel, by decide +kernel⟩, List.mem_of_getElem? (i := 179) (by decide +kernel), List.mem_of_getElem? (i := 544) (by decide +kernel), List.mem_of_getElem? (i := 545) (by decide +kernel)⟩
theorem lw_p14 : lw_okq (⟨"TriggerStages$Pad", "readKind", "()I"⟩, 4) := ⟨⟨by decide +kernel, by decide +kernel⟩, List.mem_of_getElem? (i := 179) (by decide +kernel), List.mem_of_getElem? (i := 548) (by decide +kernel), List.mem_of_getElem? (i := 549) (by decide +kernel)⟩
theorem lw_p15 : lw_okq (⟨"TriggerStages$Pad", "accepts", "(C)Z"⟩, 4) := ⟨⟨by decide +kernel, by decide +kernel⟩, List.mem_of_getElem? (i := 179) (by decide +kernel), List.mem_of_getElem? (i := 552) (by decide +kernel), List.mem_of_getElem? (i := 553) (by decide +kernel)⟩
def lw_privs_1 : List (MethodName × Nat) := [(⟨"TriggerStages$Course", "carry", "(IIIIIII)Z"⟩, 11), (⟨"TriggerStages$Course", "begin", "(IIIIIII)I"⟩, 11), (⟨"TriggerStages$Course", "isLeftOut", "(I)Z"⟩, 11), (⟨"TriggerStages$Course", "doStage", "(III)Z"⟩, 11), (⟨"TriggerStages$Course", "isSetOff", "(III)Z"⟩, 11), (⟨"TriggerStages$Course", "doDeed", "(III)Z"⟩, 11), (⟨"TriggerStages$Tables", "insert", "(III)V"⟩, 3), (⟨"TriggerStages$Tables", "renumber", "(III)V"⟩, 3), (⟨"TriggerStages$Tables", "remove", "(II)V"⟩, 3), (⟨"TriggerStages$Course", "noteDone", "(I)V"⟩, 11), (⟨"TriggerStages$Course", "queueLastStage", "(I)V"⟩, 11), (⟨"TriggerStages", "takeOver", "()V"⟩, 5), (⟨"TriggerStages$Triggers", "followersOfAll", "(I)I"⟩, 1), (⟨"TriggerStages$Pad", "readStatement", "()Z"⟩, 4), (⟨"TriggerStages$Pad", "readKind", "()I"⟩, 4), (⟨"TriggerStages$Pad", "accepts", "(C)Z"⟩, 4)]
theorem lw_r1 : ∀ q ∈ lw_privs_1, lw_okq q := List.forall_mem_cons.mpr ⟨lw_p0, List.forall_mem_cons.mpr ⟨lw_p1, List.forall_mem_cons.mpr ⟨lw_p2, List.forall_mem_cons.mpr ⟨lw_p3, List.forall_mem_cons.mpr ⟨lw_p4, List.forall_mem_cons.mpr ⟨lw_p5, List.forall_mem_cons.mpr ⟨lw_p6, List.forall_mem_cons.mpr ⟨lw_p7, List.forall_mem_cons.mpr ⟨lw_p8, List.forall_mem_cons.mpr ⟨lw_p9, List.forall_mem_cons.mpr ⟨lw_p10, List.forall_mem_cons.mpr ⟨lw_p11, List.forall_mem_cons.mpr ⟨lw_p12, List.forall_mem_cons.mpr ⟨lw_p13, List.forall_mem_cons.mpr ⟨lw_p14, List.forall_mem_cons.mpr ⟨lw_p15, fun _ h => absurd h List.not_mem_nil⟩⟩⟩⟩⟩⟩⟩⟩⟩⟩⟩⟩⟩⟩⟩⟩
theorem lw_p16 : lw_okq (⟨"TriggerStages$Pad", "next", "()C"⟩, 4) := ⟨⟨by decide +kernel, by decide +kernel⟩, List.mem_of_getElem? (i := 179) (by decide +kernel), List.mem_of_getElem? (i := 556) (by decide +kernel), List.mem_of_getElem? (i := 557) (by decide +kernel)⟩
theorem lw_p17 : lw_okq (⟨"TriggerStages$Pad", "readNumber", "(I)I"⟩, 4) := ⟨⟨by decide +kernel, by decide +kernel⟩, List.mem_of_getElem? (i := 179) (by decide +kernel), List.mem_of_getElem? (i := 561) (by decide +kernel), List.mem_of_getElem? (i := 562) (by decide +kernel)⟩
theorem lw_p18 : lw_okq (⟨"TriggerStages$Pad", "digit", "()I"⟩, 4) := ⟨⟨by decide +kernel, by decide +kernel⟩, List.mem_of_getElem? (i := 179) (by decide +kernel), List.mem_of_getElem? (i := 565) (by decide +kernel), List.mem_of_getElem? (i := 566) (by decide +kernel)⟩
theorem lw_p19 : lw_okq (⟨"TriggerStages$Pad", "keep", "(IIII)V"⟩, 4) := ⟨⟨by decide +kernel, by decide +kernel⟩, List.mem_of_getElem? (i := 179) (by decide +kernel), List.mem_of_getElem? (i := 569) (by decide +kernel), List.mem_of_getElem? (i := 570) (by decide +kernel)⟩
theorem lw_p20 : lw_okq (⟨"TriggerStagesModel", "records", "()V"⟩, 43) := ⟨⟨by decide +kernel, by decide +kernel⟩, List.mem_of_getElem? (i := 610) (by decide +kernel), List.mem_of_getElem? (i := 754) (by decide +kernel), List.mem_of_getElem? (i := 755) (by decide +kernel)⟩
theorem lw_p21 : lw_okq (⟨"TriggerStagesModel", "isTrigger", "(I)Z"⟩, 43) := ⟨⟨by decide +kernel, by decide +kernel⟩, List.mem_of_getElem? (i := 610) (by decide +kernel), List.mem_of_getElem? (i := 769) (by decide +kernel), List.mem_of_getElem? (i := 770) (by decide +kernel)⟩
theorem lw_p22 : lw_okq (⟨"TriggerStagesModel", "of", "(II)I"⟩, 43) := ⟨⟨by decide +kernel, by decide +kernel⟩, List.mem_of_getElem? (i := 610) (by decide +kernel), List.mem_of_getElem? (i := 773) (by decide +kernel), List.mem_of_getElem? (i := 774) (by decide +kernel)⟩
theorem lw_p23 : lw_okq (⟨"TriggerStagesModel", "tries", "(IIII)Z"⟩, 43) := ⟨⟨by decide +kernel, by decide +kernel⟩, List.mem_of_getElem? (i := 610) (by decide +kernel), List.mem_of_getElem? (i := 788) (by decide +kernel), List.mem_of_getElem? (i := 789) (by decide +kernel)⟩
theorem lw_p24 : lw_okq (⟨"TriggerStagesModel", "putAside", "()V"⟩, 43) := ⟨⟨by decide +kernel, by decide +kernel⟩, List.mem_of_getElem? (i := 610) (by decide +kernel), List.mem_of_getElem? (i := 792) (by decide +kernel), List.mem_of_getElem? (i := 793) (by decide +kernel)⟩
theorem lw_p25 : lw_okq (⟨"TriggerStagesModel", "carries", "(IIII)V"⟩, 43) := ⟨⟨by decide +kernel, by decide +kernel⟩, List.mem_of_getElem? (i := 610) (by decide +kernel), List.mem_of_getElem? (i := 796) (by decide +kernel), List.mem_of_getElem? (i := 797) (by decide +kernel)⟩
theorem lw_p26 : lw_okq (⟨"TriggerStagesModel", "begins", "(IIIII)V"⟩, 43) := ⟨⟨by decide +kernel, by decide +kernel⟩, List.mem_of_getElem? (i := 610) (by decide +kernel), List.mem_of_getElem? (i := 800) (by decide +kernel), List.mem_of_getElem? (i := 801) (by decide +kernel)⟩
theorem lw_p27 : lw_okq (⟨"TriggerStagesModel", "fails", "(IIII)V"⟩, 43) := ⟨⟨by decide +kernel, by decide +kernel⟩, List.mem_of_getElem? (i := 610) (by decide +kernel), List.mem_of_getElem? (i := 804) (by decide +kernel), List.mem_of_getElem? (i := 805) (by decide +kernel)⟩
theorem lw_p28 : lw_okq (⟨"TriggerStagesModel", "isPossible", "(IIII)Z"⟩, 43) := ⟨⟨by decide +kernel, by decide +kernel⟩, List.mem_of_getElem? (i := 610) (by decide +kernel), List.mem_of_getElem? (i := 808) (by decide +kernel), List.mem_of_getElem? (i := 809) (by decide +kernel)⟩
theorem lw_p29 : lw_okq (⟨"TriggerStagesModel", "numberOf", "(II)I"⟩, 43) := ⟨⟨by decide +kernel, by decide +kernel⟩, List.mem_of_getElem? (i := 610) (by decide +kernel), List.mem_of_getElem? (i := 812) (by decide +kernel), List.mem_of_getElem? (i := 813) (by decide +kernel)⟩
theorem lw_p30 : lw_okq (⟨"TriggerStagesModel", "placeOf", "(II)I"⟩, 43) := ⟨⟨by decide +kernel, by decide +kernel⟩, List.mem_of_getElem? (i := 610) (by decide +kernel), List.mem_of_getElem? (i := 816) (by decide +kernel), List.mem_of_getElem? (i := 817) (by decide +kernel)⟩
theorem lw_p31 : lw_okq (⟨"TriggerStagesModel", "rows", "(I)I"⟩, 43) := ⟨⟨by decide +kernel, by decide +kernel⟩, List.mem_of_getElem? (i := 610) (by decide +kernel), List.mem_of_getElem? (i := 820) (by decide +kernel), List.mem_of_getElem? (i := 821) (by decide +kernel)⟩
def lw_privs_2 : List (MethodName × Nat) := [(⟨"TriggerStages$Pad", "next", "()C"⟩, 4), (⟨"TriggerStages$Pad", "readNumber", "(I)I"⟩, 4), (⟨"TriggerStages$Pad", "digit", "()I"⟩, 4), (⟨"TriggerStages$Pad", "keep", "(IIII)V"⟩, 4), (⟨"TriggerStagesModel", "records", "()V"⟩, 43), (⟨"TriggerStagesModel", "isTrigger", "(I)Z"⟩, 43), (⟨"TriggerStagesModel", "of", "(II)I"⟩, 43), (⟨"TriggerStagesModel", "tries", "(IIII)Z"⟩, 43), (⟨"TriggerStagesModel", "putAside", "()V"⟩, 43), (⟨"TriggerStagesModel", "carries", "(IIII)V"⟩, 43), (⟨"TriggerStagesModel", "begins", "(IIIII)V"⟩, 43), (⟨"TriggerStagesModel", "fails", "(IIII)V"⟩, 43), (⟨"TriggerStagesModel", "isPossible", "(IIII)Z"⟩, 43), (⟨"TriggerStagesModel", "numberOf", "(II)I"⟩, 43), (⟨"TriggerStagesModel", "placeOf", "(II)I"⟩, 43), (⟨"TriggerStagesModel", "rows", "(I)I"⟩, 43)]
theorem lw_r2 : ∀ q ∈ lw_privs_2, lw_okq q := List.forall_mem_cons.mpr ⟨lw_p16, List.forall_mem_cons.mpr ⟨lw_p17, List.forall_mem_cons.mpr ⟨lw_p18, List.forall_mem_cons.mpr ⟨lw_p19, List.forall_mem_cons.mpr ⟨lw_p20, List.forall_mem_cons.mpr ⟨lw_p21, List.forall_mem_cons.mpr ⟨lw_p22, List.forall_mem_cons.mpr ⟨lw_p23, List.forall_mem_cons.mpr ⟨lw_p24, List.forall_mem_cons.mpr ⟨lw_p25, List.forall_mem_cons.mpr ⟨lw_p26, List.forall_mem_cons.mpr ⟨lw_p27, List.forall_mem_cons.mpr ⟨lw_p28, List.forall_mem_cons.mpr ⟨lw_p29, List.forall_mem_cons.mpr ⟨lw_p30, List.forall_mem_cons.mpr ⟨lw_p31, fun _ h => absurd h List.not_mem_nil⟩⟩⟩⟩⟩⟩⟩⟩⟩⟩⟩⟩⟩⟩⟩⟩
theorem lw_p32 : lw_okq (⟨"TriggerStagesModel", "clears", "()V"⟩, 43) := ⟨⟨by decide +kernel, by decide +kernel⟩, List.mem_of_getElem? (i := 610) (by decide +kernel), List.mem_of_getElem? (i := 827) (by decide +kernel), List.mem_of_getElem? (i := 828) (by decide +kernel)⟩
theorem lw_p33 : lw_okq (⟨"TriggerStagesModel", "goesOn", "()V"⟩, 43) := ⟨⟨by decide +kernel, by decide +kernel⟩, List.mem_of_getElem? (i := 610) (by decide +kernel), List.mem_of_getElem? (i := 831) (by decide +kernel), List.mem_of_getElem? (i := 832) (by decide +kernel)⟩
theorem lw_p34 : lw_okq (⟨"TriggerStagesModel", "isSetOff", "(III)Z"⟩, 43) := ⟨⟨by decide +kernel, by decide +kernel⟩, List.mem_of_getElem? (i := 610) (by decide +kernel), List.mem_of_getElem? (i := 835) (by decide +kernel), List.mem_of_getElem? (i := 836) (by decide +kernel)⟩
theorem lw_p35 : lw_okq (⟨"TriggerStagesModel", "waitsFor", "(II)V"⟩, 43) := ⟨⟨by decide +kernel, by decide +kernel⟩, List.mem_of_getElem? (i := 610) (by decide +kernel), List.mem_of_getElem? (i := 839) (by decide +kernel), List.mem_of_getElem? (i := 840) (by decide +kernel)⟩
theorem lw_p36 : lw_okq (⟨"TriggerStagesModel", "does", "(IIII)V"⟩, 43) := ⟨⟨by decide +kernel, by decide +kernel⟩, List.mem_of_getElem? (i := 610) (by decide +kernel), List.mem_of_getElem? (i := 843) (by decide +kernel), List.mem_of_getElem? (i := 844) (by decide +kernel)⟩
theorem lw_p37 : lw_okq (⟨"TriggerStagesModel", "isDone", "(I)V"⟩, 43) := ⟨⟨by decide +kernel, by decide +kernel⟩, List.mem_of_getElem? (i := 610) (by decide +kernel), List.mem_of_getElem? (i := 847) (by decide +kernel), List.mem_of_getElem? (i := 848) (by decide +kernel)⟩
theorem lw_p38 : lw_okq (⟨"TriggerStagesModel", "lays", "(III)V"⟩, 43) := ⟨⟨by decide +kernel, by decide +kernel⟩, List.mem_of_getElem? (i := 610) (by decide +kernel), List.mem_of_getElem? (i := 851) (by decide +kernel), List.mem_of_getElem? (i := 852) (by decide +kernel)⟩
theorem lw_p39 : lw_okq (⟨"TriggerStagesModel", "drops", "(II)V"⟩, 43) := ⟨⟨by decide +kernel, by decide +kernel⟩, List.mem_of_getElem? (i := 610) (by decide +kernel), List.mem_of_getElem? (i := 855) (by decide +kernel), List.mem_of_getElem? (i := 856) (by decide +kernel)⟩
theorem lw_p40 : lw_okq (⟨"TriggerStagesModel", "takeBack", "()V"⟩, 43) := ⟨⟨by decide +kernel, by decide +kernel⟩, List.mem_of_getElem? (i := 610) (by decide +kernel), List.mem_of_getElem? (i := 859) (by decide +kernel), List.mem_of_getElem? (i := 860) (by decide +kernel)⟩
theorem lw_p41 : lw_okq (⟨"TriggerStagesModel", "states", "(IIII)Z"⟩, 43) := ⟨⟨by decide +kernel, by decide +kernel⟩, List.mem_of_getElem? (i := 610) (by decide +kernel), List.mem_of_getElem? (i := 863) (by decide +kernel), List.mem_of_getElem? (i := 864) (by decide +kernel)⟩
theorem lw_p42 : lw_okq (⟨"TriggerStagesModel", "writesJournal", "()V"⟩, 43) := ⟨⟨by decide +kernel, by decide +kernel⟩, List.mem_of_getElem? (i := 610) (by decide +kernel), List.mem_of_getElem? (i := 867) (by decide +kernel), List.mem_of_getElem? (i := 868) (by decide +kernel)⟩
theorem lw_p43 : lw_okq (⟨"TriggerStagesModel", "laysSets", "()V"⟩, 43) := ⟨⟨by decide +kernel, by decide +kernel⟩, List.mem_of_getElem? (i := 610) (by decide +kernel), List.mem_of_getElem? (i := 887) (by decide +kernel), List.mem_of_getElem? (i := 888) (by decide +kernel)⟩
theorem lw_p44 : lw_okq (⟨"TriggerStagesModel", "sumOfNumbers", "()I"⟩, 43) := ⟨⟨by decide +kernel, by decide +kernel⟩, List.mem_of_getElem? (i := 610) (by decide +kernel), List.mem_of_getElem? (i := 899) (by decide +kernel), List.mem_of_getElem? (i := 900) (by decide +kernel)⟩
theorem lw_p45 : lw_okq (⟨"TriggerStagesModel", "selves", "()I"⟩, 43) := ⟨⟨by decide +kernel, by decide +kernel⟩, List.mem_of_getElem? (i := 610) (by decide +kernel), List.mem_of_getElem? (i := 903) (by decide +kernel), List.mem_of_getElem? (i := 904) (by decide +kernel)⟩
theorem lw_p46 : lw_okq (⟨"TriggerStagesModel", "reads", "()I"⟩, 43) := ⟨⟨by decide +kernel, by decide +kernel⟩, List.mem_of_getElem? (i := 610) (by decide +kernel), List.mem_of_getElem? (i := 928) (by decide +kernel), List.mem_of_getElem? (i := 929) (by decide +kernel)⟩
theorem lw_p47 : lw_okq (⟨"TriggerStagesModel", "readsStatement", "()V"⟩, 43) := ⟨⟨by decide +kernel, by decide +kernel⟩, List.mem_of_getElem? (i := 610) (by decide +kernel), List.mem_of_getElem? (i := 932) (by decide +kernel), List.mem_of_getElem? (i := 933) (by decide +kernel)⟩
def lw_privs_3 : List (MethodName × Nat) := [(⟨"TriggerStagesModel", "clears", "()V"⟩, 43), (⟨"TriggerStagesModel", "goesOn", "()V"⟩, 43), (⟨"TriggerStagesModel", "isSetOff", "(III)Z"⟩, 43), (⟨"TriggerStagesModel", "waitsFor", "(II)V"⟩, 43), (⟨"TriggerStagesModel", "does", "(IIII)V"⟩, 43), (⟨"TriggerStagesModel", "isDone", "(I)V"⟩, 43), (⟨"TriggerStagesModel", "lays", "(III)V"⟩, 43), (⟨"TriggerStagesModel", "drops", "(II)V"⟩, 43), (⟨"TriggerStagesModel", "takeBack", "()V"⟩, 43), (⟨"TriggerStagesModel", "states", "(IIII)Z"⟩, 43), (⟨"TriggerStagesModel", "writesJournal", "()V"⟩, 43), (⟨"TriggerStagesModel", "laysSets", "()V"⟩, 43), (⟨"TriggerStagesModel", "sumOfNumbers", "()I"⟩, 43), (⟨"TriggerStagesModel", "selves", "()I"⟩, 43), (⟨"TriggerStagesModel", "reads", "()I"⟩, 43), (⟨"TriggerStagesModel", "readsStatement", "()V"⟩, 43)]
theorem lw_r3 : ∀ q ∈ lw_privs_3, lw_okq q := List.forall_mem_cons.mpr ⟨lw_p32, List.forall_mem_cons.mpr ⟨lw_p33, List.forall_mem_cons.mpr ⟨lw_p34, List.forall_mem_cons.mpr ⟨lw_p35, List.forall_mem_cons.mpr ⟨lw_p36, List.forall_mem_cons.mpr ⟨lw_p37, List.forall_mem_cons.mpr ⟨lw_p38, List.forall_mem_cons.mpr ⟨lw_p39, List.forall_mem_cons.mpr ⟨lw_p40, List.forall_mem_cons.mpr ⟨lw_p41, List.forall_mem_cons.mpr ⟨lw_p42, List.forall_mem_cons.mpr ⟨lw_p43, List.forall_mem_cons.mpr ⟨lw_p44, List.forall_mem_cons.mpr ⟨lw_p45, List.forall_mem_cons.mpr ⟨lw_p46, List.forall_mem_cons.mpr ⟨lw_p47, fun _ h => absurd h List.not_mem_nil⟩⟩⟩⟩⟩⟩⟩⟩⟩⟩⟩⟩⟩⟩⟩⟩
theorem lw_p48 : lw_okq (⟨"TriggerStagesModel", "sign", "()I"⟩, 43) := ⟨⟨by decide +kernel, by decide +kernel⟩, List.mem_of_getElem? (i := 610) (by decide +kernel), List.mem_of_getElem? (i := 936) (by decide +kernel), List.mem_of_getElem? (i := 937) (by decide +kernel)⟩
theorem lw_p49 : lw_okq (⟨"TriggerStagesModel", "takes", "(II)I"⟩, 43) := ⟨⟨by decide +kernel, by decide +kernel⟩, List.mem_of_getElem? (i := 610) (by decide +kernel), List.mem_of_getElem? (i := 940) (by decide +kernel), List.mem_of_getElem? (i := 941) (by decide +kernel)⟩
theorem lw_p50 : lw_okq (⟨"TriggerStagesModel", "number", "(I)I"⟩, 43) := ⟨⟨by decide +kernel, by decide +kernel⟩, List.mem_of_getElem? (i := 610) (by decide +kernel), List.mem_of_getElem? (i := 944) (by decide +kernel), List.mem_of_getElem? (i := 945) (by decide +kernel)⟩
theorem lw_p51 : lw_okq (⟨"TriggerStagesModel", "allRows", "()I"⟩, 43) := ⟨⟨by decide +kernel, by decide +kernel⟩, List.mem_of_getElem? (i := 610) (by decide +kernel), List.mem_of_getElem? (i := 960) (by decide +kernel), List.mem_of_getElem? (i := 961) (by decide +kernel)⟩
def lw_privs_4 : List (MethodName × Nat) := [(⟨"TriggerStagesModel", "sign", "()I"⟩, 43), (⟨"TriggerStagesModel", "takes", "(II)I"⟩, 43), (⟨"TriggerStagesModel", "number", "(I)I"⟩, 43), (⟨"TriggerStagesModel", "allRows", "()I"⟩, 43)]
theorem lw_r4 : ∀ q ∈ lw_privs_4, lw_okq q := List.forall_mem_cons.mpr ⟨lw_p48, List.forall_mem_cons.mpr ⟨lw_p49, List.forall_mem_cons.mpr ⟨lw_p50, List.forall_mem_cons.mpr ⟨lw_p51, fun _ h => absurd h List.not_mem_nil⟩⟩⟩⟩
def lw_privs : List (MethodName × Nat) := lw_privs_1 ++ (lw_privs_2 ++ (lw_privs_3 ++ (lw_privs_4)))
def lw_tbl : List Cond := k2_sels lw_privs ++ tables_1
theorem lw_privs_ok : ∀ q ∈ lw_privs, lw_okq q := by
  show ∀ q ∈ lw_privs_1 ++ (lw_privs_2 ++ (lw_privs_3 ++ (lw_privs_4))), lw_okq q
  exact List.forall_mem_append.mpr ⟨lw_r1, List.forall_mem_append.mpr ⟨lw_r2, List.forall_mem_append.mpr ⟨lw_r3, lw_r4⟩⟩⟩
def RX0 : String := "TriggerStages$Course"
def TX0 : u_T := fun k => match k with
  | 0 => ("TriggerStages$Course", "tables", "LTriggerStages$Tables;", true)
  | 1 => ("TriggerStages$Course", "journal", "LTriggerStages$Sheet;", true)
  | 2 => ("TriggerStages$Course", "begun", "LTriggerStages$Sheet;", true)
  | 3 => ("TriggerStages$Course", "failure", "LTriggerStages$Failure;", true)
  | 4 => ("TriggerStages$Course", "leftOut", "I", false)
  | 5 => ("TriggerStages$Course", "triggers", "LTriggerStages$Sheet;", true)
  | 6 => ("TriggerStages$Course", "waiting", "LTriggerStages$Sheet;", true)
  | 7 => ("TriggerStages$Course", "isLenient", "Z", false)
  | 8 => ("TriggerStages$Course", "depthLimit", "I", false)
  | 9 => ("TriggerStages$Course", "without", "I", false)
  | _ => ("TriggerStages$Course", "inMotion", "I", false)
def tyX0 : Nat → FieldType := fun k => match k with
  | 0 => .object "TriggerStages$Tables"
  | 1 => .object "TriggerStages$Sheet"
  | 2 => .object "TriggerStages$Sheet"
  | 3 => .object "TriggerStages$Failure"
  | 4 => .int
  | 5 => .object "TriggerStages$Sheet"
  | 6 => .object "TriggerStages$Sheet"
  | 7 => .boolean
  | 8 => .int
  | 9 => .int
  | _ => .int
abbrev wsX00 : List Cond := u_ws RX0 TX0 11
theorem nmX0 : ∀ a, a < 11 → ∀ b, b < 11 → a ≠ b → (TX0 a).2.1 ≠ (TX0 b).2.1 := by decide +kernel
theorem tyX0_ok : ∀ k, k < 11 → parseFieldDescriptor (TX0 k).2.2.1 = some (tyX0 k) := by decide +kernel
abbrev cX0_init : ByteArray := prog_2_method_1_code
def yX0_init : MethodName := ⟨RX0, "<init>", "()V"⟩
abbrev cX0_run : ByteArray := prog_2_method_2_code
def yX0_run : MethodName := ⟨RX0, "run", "(LTriggerStages$State;IIIIII)V"⟩
abbrev cX0_greatestDepth : ByteArray := prog_2_method_3_code
def yX0_greatestDepth : MethodName := ⟨RX0, "greatestDepth", "()I"⟩
abbrev cX0_carry : ByteArray := prog_2_method_4_code
def yX0_carry : MethodName := ⟨RX0, "carry", "(IIIIIII)Z"⟩
abbrev cX0_begin : ByteArray := prog_2_method_5_code
def yX0_begin : MethodName := ⟨RX0, "begin", "(IIIIIII)I"⟩
abbrev cX0_noteDone : ByteArray := prog_2_method_6_code
def yX0_noteDone : MethodName := ⟨RX0, "noteDone", "(I)V"⟩
abbrev cX0_isLeftOut : ByteArray := prog_2_method_7_code
def yX0_isLeftOut : MethodName := ⟨RX0, "isLeftOut", "(I)Z"⟩
abbrev cX0_doStage : ByteArray := prog_2_method_8_code
def yX0_doStage : MethodName := ⟨RX0, "doStage", "(III)Z"⟩
abbrev cX0_queueLastStage : ByteArray := prog_2_method_9_code
def yX0_queueLastStage : MethodName := ⟨RX0, "queueLastStage", "(I)V"⟩
abbrev cX0_isSetOff : ByteArray := prog_2_method_10_code
def yX0_isSetOff : MethodName := ⟨RX0, "isSetOff", "(III)Z"⟩
abbrev cX0_doDeed : ByteArray := prog_2_method_11_code
def yX0_doDeed : MethodName := ⟨RX0, "doDeed", "(III)Z"⟩
def RX1 : String := "TriggerStages$Failure"
def TX1 : u_T := fun k => match k with
  | 0 => ("TriggerStages$Failure", "reason", "I", false)
  | 1 => ("TriggerStages$Failure", "table", "I", false)
  | 2 => ("TriggerStages$Failure", "key", "I", false)
  | 3 => ("TriggerStages$Failure", "blamed", "I", false)
  | _ => ("TriggerStages$Failure", "chain", "[I", true)
def tyX1 : Nat → FieldType := fun k => match k with
  | 0 => .int
  | 1 => .int
  | 2 => .int
  | 3 => .int
  | _ => .array .int
abbrev wsX10 : List Cond := u_ws RX1 TX1 5
theorem nmX1 : ∀ a, a < 5 → ∀ b, b < 5 → a ≠ b → (TX1 a).2.1 ≠ (TX1 b).2.1 := by decide +kernel
theorem tyX1_ok : ∀ k, k < 5 → parseFieldDescriptor (TX1 k).2.2.1 = some (tyX1 k) := by decide +kernel
abbrev cX1_init : ByteArray := prog_3_method_1_code
def yX1_init : MethodName := ⟨RX1, "<init>", "()V"⟩
abbrev cX1_clear : ByteArray := prog_3_method_2_code
def yX1_clear : MethodName := ⟨RX1, "clear", "()V"⟩
abbrev cX1_isThere : ByteArray := prog_3_method_3_code
def yX1_isThere : MethodName := ⟨RX1, "isThere", "()Z"⟩
abbrev cX1_blamedAt : ByteArray := prog_3_method_4_code
def yX1_blamedAt : MethodName := ⟨RX1, "blamedAt", "(I)I"⟩
abbrev cX1_tell : ByteArray := prog_3_method_5_code
def yX1_tell : MethodName := ⟨RX1, "tell", "(IIILTriggerStages$Sheet;II)Z"⟩
def RX2 : String := "TriggerStages$History"
def TX2 : u_T := fun k => match k with
  | 0 => ("TriggerStages$History", "ring", "[LTriggerStages$State;", true)
  | 1 => ("TriggerStages$History", "oldest", "I", false)
  | _ => ("TriggerStages$History", "size", "I", false)
def tyX2 : Nat → FieldType := fun k => match k with
  | 0 => .array (.object "TriggerStages$State")
  | 1 => .int
  | _ => .int
abbrev wsX20 : List Cond := u_ws RX2 TX2 3
theorem nmX2 : ∀ a, a < 3 → ∀ b, b < 3 → a ≠ b → (TX2 a).2.1 ≠ (TX2 b).2.1 := by decide +kernel
theorem tyX2_ok : ∀ k, k < 3 → parseFieldDescriptor (TX2 k).2.2.1 = some (tyX2 k) := by decide +kernel
abbrev cX2_init : ByteArray := prog_4_method_1_code
def yX2_init : MethodName := ⟨RX2, "<init>", "()V"⟩
abbrev cX2_size : ByteArray := prog_4_method_2_code
def yX2_size : MethodName := ⟨RX2, "size", "()I"⟩
abbrev cX2_keep : ByteArray := prog_4_method_3_code
def yX2_keep : MethodName := ⟨RX2, "keep", "(LTriggerStages$State;)V"⟩
abbrev cX2_takeBack : ByteArray := prog_4_method_4_code
def yX2_takeBack : MethodName := ⟨RX2, "takeBack", "(LTriggerStages$State;)Z"⟩
def RX3 : String := "TriggerStages$Pad"
def TX3 : u_T := fun k => match k with
  | 0 => ("TriggerStages$Pad", "signs", "[C", true)
  | 1 => ("TriggerStages$Pad", "parsed", "LTriggerStages$Sheet;", true)
  | 2 => ("TriggerStages$Pad", "length", "I", false)
  | _ => ("TriggerStages$Pad", "at", "I", false)
def tyX3 : Nat → FieldType := fun k => match k with
  | 0 => .array .char
  | 1 => .object "TriggerStages$Sheet"
  | 2 => .int
  | _ => .int
abbrev wsX30 : List Cond := u_ws RX3 TX3 4
theorem nmX3 : ∀ a, a < 4 → ∀ b, b < 4 → a ≠ b → (TX3 a).2.1 ≠ (TX3 b).2.1 := by decide +kernel
theorem tyX3_ok : ∀ k, k < 4 → parseFieldDescriptor (TX3 k).2.2.1 = some (tyX3 k) := by decide +kernel
abbrev cX3_init : ByteArray := prog_5_method_1_code
def yX3_init : MethodName := ⟨RX3, "<init>", "()V"⟩
abbrev cX3_length : ByteArray := prog_5_method_2_code
def yX3_length : MethodName := ⟨RX3, "length", "()I"⟩
abbrev cX3_clear : ByteArray := prog_5_method_3_code
def yX3_clear : MethodName := ⟨RX3, "clear", "()V"⟩
abbrev cX3_signsIn : ByteArray := prog_5_method_4_code
def yX3_signsIn : MethodName := ⟨RX3, "signsIn", "(J)I"⟩
abbrev cX3_append : ByteArray := prog_5_method_5_code
def yX3_append : MethodName := ⟨RX3, "append", "(JI)V"⟩
abbrev cX3_statements : ByteArray := prog_5_method_6_code
def yX3_statements : MethodName := ⟨RX3, "statements", "()I"⟩
abbrev cX3_get : ByteArray := prog_5_method_7_code
def yX3_get : MethodName := ⟨RX3, "get", "(II)I"⟩
abbrev cX3_read : ByteArray := prog_5_method_8_code
def yX3_read : MethodName := ⟨RX3, "read", "()I"⟩
abbrev cX3_readStatement : ByteArray := prog_5_method_9_code
def yX3_readStatement : MethodName := ⟨RX3, "readStatement", "()Z"⟩
abbrev cX3_readKind : ByteArray := prog_5_method_10_code
def yX3_readKind : MethodName := ⟨RX3, "readKind", "()I"⟩
abbrev cX3_readNumber : ByteArray := prog_5_method_11_code
def yX3_readNumber : MethodName := ⟨RX3, "readNumber", "(I)I"⟩
abbrev cX3_digit : ByteArray := prog_5_method_12_code
def yX3_digit : MethodName := ⟨RX3, "digit", "()I"⟩
abbrev cX3_accepts : ByteArray := prog_5_method_13_code
def yX3_accepts : MethodName := ⟨RX3, "accepts", "(C)Z"⟩
abbrev cX3_next : ByteArray := prog_5_method_14_code
def yX3_next : MethodName := ⟨RX3, "next", "()C"⟩
abbrev cX3_keep : ByteArray := prog_5_method_15_code
def yX3_keep : MethodName := ⟨RX3, "keep", "(IIII)V"⟩
def RX4 : String := "TriggerStages$Sheet"
def TX4 : u_T := fun k => match k with
  | 0 => ("TriggerStages$Sheet", "limit", "I", true)
  | 1 => ("TriggerStages$Sheet", "width", "I", true)
  | 2 => ("TriggerStages$Sheet", "cells", "[I", true)
  | _ => ("TriggerStages$Sheet", "size", "I", false)
def tyX4 : Nat → FieldType := fun k => match k with
  | 0 => .int
  | 1 => .int
  | 2 => .array .int
  | _ => .int
abbrev wsX40 : List Cond := u_ws RX4 TX4 4
theorem nmX4 : ∀ a, a < 4 → ∀ b, b < 4 → a ≠ b → (TX4 a).2.1 ≠ (TX4 b).2.1 := by decide +kernel
theorem tyX4_ok : ∀ k, k < 4 → parseFieldDescriptor (TX4 k).2.2.1 = some (tyX4 k) := by decide +kernel
abbrev cX4_init : ByteArray := prog_6_method_1_code
def yX4_init : MethodName := ⟨RX4, "<init>", "(II)V"⟩
abbrev cX4_copyFrom : ByteArray := prog_6_method_2_code
def yX4_copyFrom : MethodName := ⟨RX4, "copyFrom", "(LTriggerStages$Sheet;)V"⟩
abbrev cX4_clear : ByteArray := prog_6_method_3_code
def yX4_clear : MethodName := ⟨RX4, "clear", "()V"⟩
abbrev cX4_size : ByteArray := prog_6_method_4_code
def yX4_size : MethodName := ⟨RX4, "size", "()I"⟩
abbrev cX4_get : ByteArray := prog_6_method_5_code
def yX4_get : MethodName := ⟨RX4, "get", "(II)I"⟩
abbrev cX4_change : ByteArray := prog_6_method_6_code
def yX4_change : MethodName := ⟨RX4, "change", "(III)V"⟩
abbrev cX4_append : ByteArray := prog_6_method_7_code
def yX4_append : MethodName := ⟨RX4, "append", "()I"⟩
abbrev cX4_remove : ByteArray := prog_6_method_8_code
def yX4_remove : MethodName := ⟨RX4, "remove", "(I)V"⟩
def RX5 : String := "TriggerStages$State"
def TX5 : u_T := fun k => match k with
  | 0 => ("TriggerStages$State", "tables", "LTriggerStages$Tables;", true)
  | 1 => ("TriggerStages$State", "triggers", "LTriggerStages$Triggers;", true)
  | 2 => ("TriggerStages$State", "journal", "LTriggerStages$Sheet;", true)
  | 3 => ("TriggerStages$State", "depth", "I", false)
  | _ => ("TriggerStages$State", "lenient", "I", false)
def tyX5 : Nat → FieldType := fun k => match k with
  | 0 => .object "TriggerStages$Tables"
  | 1 => .object "TriggerStages$Triggers"
  | 2 => .object "TriggerStages$Sheet"
  | 3 => .int
  | _ => .int
abbrev wsX50 : List Cond := u_ws RX5 TX5 5
theorem nmX5 : ∀ a, a < 5 → ∀ b, b < 5 → a ≠ b → (TX5 a).2.1 ≠ (TX5 b).2.1 := by decide +kernel
theorem tyX5_ok : ∀ k, k < 5 → parseFieldDescriptor (TX5 k).2.2.1 = some (tyX5 k) := by decide +kernel
abbrev cX5_init : ByteArray := prog_7_method_1_code
def yX5_init : MethodName := ⟨RX5, "<init>", "()V"⟩
abbrev cX5_copyFrom : ByteArray := prog_7_method_2_code
def yX5_copyFrom : MethodName := ⟨RX5, "copyFrom", "(LTriggerStages$State;)V"⟩
def RX6 : String := "TriggerStages$Tables"
def TX6 : u_T := fun k => match k with
  | 0 => ("TriggerStages$Tables", "sizes", "[I", true)
  | 1 => ("TriggerStages$Tables", "keys", "[I", true)
  | _ => ("TriggerStages$Tables", "numbers", "[I", true)
def tyX6 : Nat → FieldType := fun k => match k with
  | 0 => .array .int
  | 1 => .array .int
  | _ => .array .int
abbrev wsX60 : List Cond := u_ws RX6 TX6 3
theorem nmX6 : ∀ a, a < 3 → ∀ b, b < 3 → a ≠ b → (TX6 a).2.1 ≠ (TX6 b).2.1 := by decide +kernel
theorem tyX6_ok : ∀ k, k < 3 → parseFieldDescriptor (TX6 k).2.2.1 = some (tyX6 k) := by decide +kernel
abbrev cX6_init : ByteArray := prog_8_method_1_code
def yX6_init : MethodName := ⟨RX6, "<init>", "()V"⟩
abbrev cX6_copyFrom : ByteArray := prog_8_method_2_code
def yX6_copyFrom : MethodName := ⟨RX6, "copyFrom", "(LTriggerStages$Tables;)V"⟩
abbrev cX6_sizeOf : ByteArray := prog_8_method_3_code
def yX6_sizeOf : MethodName := ⟨RX6, "sizeOf", "(I)I"⟩
abbrev cX6_rows : ByteArray := prog_8_method_4_code
def yX6_rows : MethodName := ⟨RX6, "rows", "()I"⟩
abbrev cX6_sumOfNumbers : ByteArray := prog_8_method_5_code
def yX6_sumOfNumbers : MethodName := ⟨RX6, "sumOfNumbers", "()I"⟩
abbrev cX6_keyAt : ByteArray := prog_8_method_6_code
def yX6_keyAt : MethodName := ⟨RX6, "keyAt", "(II)I"⟩
abbrev cX6_numberAt : ByteArray := prog_8_method_7_code
def yX6_numberAt : MethodName := ⟨RX6, "numberAt", "(II)I"⟩
abbrev cX6_placeOf : ByteArray := prog_8_method_8_code
def yX6_placeOf : MethodName := ⟨RX6, "placeOf", "(II)I"⟩
abbrev cX6_weightOf : ByteArray := prog_8_method_9_code
def yX6_weightOf : MethodName := ⟨RX6, "weightOf", "(IIII)I"⟩
abbrev cX6_apply : ByteArray := prog_8_method_10_code
def yX6_apply : MethodName := ⟨RX6, "apply", "(IIII)V"⟩
abbrev cX6_insert : ByteArray := prog_8_method_11_code
def yX6_insert : MethodName := ⟨RX6, "insert", "(III)V"⟩
abbrev cX6_renumber : ByteArray := prog_8_method_12_code
def yX6_renumber : MethodName := ⟨RX6, "renumber", "(III)V"⟩
abbrev cX6_remove : ByteArray := prog_8_method_13_code
def yX6_remove : MethodName := ⟨RX6, "remove", "(II)V"⟩
def RX7 : String := "TriggerStages$Triggers"
def TX7 : u_T := fun k => match k with
  | _ => ("TriggerStages$Triggers", "sheet", "LTriggerStages$Sheet;", true)
def tyX7 : Nat → FieldType := fun k => match k with
  | _ => .object "TriggerStages$Sheet"
abbrev wsX70 : List Cond := u_ws RX7 TX7 1
theorem nmX7 : ∀ a, a < 1 → ∀ b, b < 1 → a ≠ b → (TX7 a).2.1 ≠ (TX7 b).2.1 := by decide +kernel
theorem tyX7_ok : ∀ k, k < 1 → parseFieldDescriptor (TX7 k).2.2.1 = some (tyX7 k) := by decide +kernel
abbrev cX7_init : ByteArray := prog_9_method_1_code
def yX7_init : MethodName := ⟨RX7, "<init>", "()V"⟩
abbrev cX7_copyFrom : ByteArray := prog_9_method_2_code
def yX7_copyFrom : MethodName := ⟨RX7, "copyFrom", "(LTriggerStages$Triggers;)V"⟩
abbrev cX7_size : ByteArray := prog_9_method_3_code
def yX7_size : MethodName := ⟨RX7, "size", "()I"⟩
abbrev cX7_get : ByteArray := prog_9_method_4_code
def yX7_get : MethodName := ⟨RX7, "get", "(II)I"⟩
abbrev cX7_append : ByteArray := prog_9_method_5_code
def yX7_append : MethodName := ⟨RX7, "append", "(IIII)I"⟩
abbrev cX7_giveDeed : ByteArray := prog_9_method_6_code
def yX7_giveDeed : MethodName := ⟨RX7, "giveDeed", "(IIIII)V"⟩
abbrev cX7_remove : ByteArray := prog_9_method_7_code
def yX7_remove : MethodName := ⟨RX7, "remove", "(I)V"⟩
abbrev cX7_followers : ByteArray := prog_9_method_8_code
def yX7_followers : MethodName := ⟨RX7, "followers", "(I)I"⟩
abbrev cX7_couldSetOffItself : ByteArray := prog_9_method_9_code
def yX7_couldSetOffItself : MethodName := ⟨RX7, "couldSetOffItself", "(I)Z"⟩
abbrev cX7_thoseThatCouldSetOffThemselves : ByteArray := prog_9_method_10_code
def yX7_thoseThatCouldSetOffThemselves : MethodName := ⟨RX7, "thoseThatCouldSetOffThemselves", "()I"⟩
abbrev cX7_followersOfAll : ByteArray := prog_9_method_11_code
def yX7_followersOfAll : MethodName := ⟨RX7, "followersOfAll", "(I)I"⟩
abbrev cX7_isIn : ByteArray := prog_9_method_12_code
def yX7_isIn : MethodName := ⟨RX7, "isIn", "(II)Z"⟩
def RX8 : String := "TriggerStages"
def TX8 : u_T := fun k => match k with
  | 0 => ("TriggerStages", "now", "LTriggerStages$State;", true)
  | 1 => ("TriggerStages", "course", "LTriggerStages$Course;", true)
  | 2 => ("TriggerStages", "pad", "LTriggerStages$Pad;", true)
  | 3 => ("TriggerStages", "history", "LTriggerStages$History;", true)
  | _ => ("TriggerStages", "slots", "[LTriggerStages$State;", true)
def tyX8 : Nat → FieldType := fun k => match k with
  | 0 => .object "TriggerStages$State"
  | 1 => .object "TriggerStages$Course"
  | 2 => .object "TriggerStages$Pad"
  | 3 => .object "TriggerStages$History"
  | _ => .array (.object "TriggerStages$State")
abbrev wsX80 : List Cond := u_ws RX8 TX8 5
theorem nmX8 : ∀ a, a < 5 → ∀ b, b < 5 → a ≠ b → (TX8 a).2.1 ≠ (TX8 b).2.1 := by decide +kernel
theorem tyX8_ok : ∀ k, k < 5 → parseFieldDescriptor (TX8 k).2.2.1 = some (tyX8 k) := by decide +kernel
abbrev cX8_init : ByteArray := prog_1_method_1_code
def yX8_init : MethodName := ⟨RX8, "<init>", "()V"⟩
abbrev cX8_set : ByteArray := prog_1_method_2_code
def yX8_set : MethodName := ⟨RX8, "set", "(II)I"⟩
abbrev cX8_trigger : ByteArray := prog_1_method_3_code
def yX8_trigger : MethodName := ⟨RX8, "trigger", "(IIII)I"⟩
abbrev cX8_deed : ByteArray := prog_1_method_4_code
def yX8_deed : MethodName := ⟨RX8, "deed", "(IIIII)I"⟩
abbrev cX8_dropTrigger : ByteArray := prog_1_method_5_code
def yX8_dropTrigger : MethodName := ⟨RX8, "dropTrigger", "(I)I"⟩
abbrev cX8_state : ByteArray := prog_1_method_6_code
def yX8_state : MethodName := ⟨RX8, "state", "(IIII)I"⟩
abbrev cX8_tried : ByteArray := prog_1_method_7_code
def yX8_tried : MethodName := ⟨RX8, "tried", "(IIIII)I"⟩
abbrev cX8_row : ByteArray := prog_1_method_8_code
def yX8_row : MethodName := ⟨RX8, "row", "(III)I"⟩
abbrev cX8_value : ByteArray := prog_1_method_9_code
def yX8_value : MethodName := ⟨RX8, "value", "(II)I"⟩
abbrev cX8_ofTrigger : ByteArray := prog_1_method_10_code
def yX8_ofTrigger : MethodName := ⟨RX8, "ofTrigger", "(II)I"⟩
abbrev cX8_journal : ByteArray := prog_1_method_11_code
def yX8_journal : MethodName := ⟨RX8, "journal", "(II)I"⟩
abbrev cX8_count : ByteArray := prog_1_method_12_code
def yX8_count : MethodName := ⟨RX8, "count", "(I)I"⟩
abbrev cX8_culprits : ByteArray := prog_1_method_13_code
def yX8_culprits : MethodName := ⟨RX8, "culprits", "(IIII)I"⟩
abbrev cX8_leastDepth : ByteArray := prog_1_method_14_code
def yX8_leastDepth : MethodName := ⟨RX8, "leastDepth", "(IIII)I"⟩
abbrev cX8_put : ByteArray := prog_1_method_15_code
def yX8_put : MethodName := ⟨RX8, "put", "(J)I"⟩
abbrev cX8_wipe : ByteArray := prog_1_method_16_code
def yX8_wipe : MethodName := ⟨RX8, "wipe", "()I"⟩
abbrev cX8_fault : ByteArray := prog_1_method_17_code
def yX8_fault : MethodName := ⟨RX8, "fault", "()I"⟩
abbrev cX8_carryOut : ByteArray := prog_1_method_18_code
def yX8_carryOut : MethodName := ⟨RX8, "carryOut", "()I"⟩
abbrev cX8_undo : ByteArray := prog_1_method_19_code
def yX8_undo : MethodName := ⟨RX8, "undo", "()I"⟩
abbrev cX8_save : ByteArray := prog_1_method_20_code
def yX8_save : MethodName := ⟨RX8, "save", "(I)I"⟩
abbrev cX8_restore : ByteArray := prog_1_method_21_code
def yX8_restore : MethodName := ⟨RX8, "restore", "(I)I"⟩
abbrev cX8_isWithin : ByteArray := prog_1_method_22_code
def yX8_isWithin : MethodName := ⟨RX8, "isWithin", "(II)Z"⟩
abbrev cX8_errorOf : ByteArray := prog_1_method_23_code
def yX8_errorOf : MethodName := ⟨RX8, "errorOf", "(IIII)I"⟩
abbrev cX8_takeOver : ByteArray := prog_1_method_24_code
def yX8_takeOver : MethodName := ⟨RX8, "takeOver", "()V"⟩
def RX9 : String := "TriggerStagesModel"
def TX9 : u_T := fun k => match k with
  | 0 => ("TriggerStagesModel", "thrown", "I", false)
  | 1 => ("TriggerStagesModel", "s", "[I", true)
  | 2 => ("TriggerStagesModel", "aside", "[I", true)
  | 3 => ("TriggerStagesModel", "undos", "[I", true)
  | 4 => ("TriggerStagesModel", "undoMany", "I", false)
  | 5 => ("TriggerStagesModel", "slots", "[I", true)
  | 6 => ("TriggerStagesModel", "hasSlot", "[Z", true)
  | 7 => ("TriggerStagesModel", "pad", "[I", true)
  | 8 => ("TriggerStagesModel", "length", "I", false)
  | 9 => ("TriggerStagesModel", "reason", "I", false)
  | 10 => ("TriggerStagesModel", "begun", "I", false)
  | 11 => ("TriggerStagesModel", "left", "I", false)
  | 12 => ("TriggerStagesModel", "deepest", "I", false)
  | 13 => ("TriggerStagesModel", "done", "I", false)
  | 14 => ("TriggerStagesModel", "badTable", "I", false)
  | 15 => ("TriggerStagesModel", "badKey", "I", false)
  | 16 => ("TriggerStagesModel", "chainMany", "I", false)
  | 17 => ("TriggerStagesModel", "chain", "[I", true)
  | 18 => ("TriggerStagesModel", "without", "I", false)
  | 19 => ("TriggerStagesModel", "low", "I", false)
  | 20 => ("TriggerStagesModel", "top", "I", false)
  | 21 => ("TriggerStagesModel", "path", "[I", true)
  | 22 => ("TriggerStagesModel", "kindAt", "[I", true)
  | 23 => ("TriggerStagesModel", "tableAt", "[I", true)
  | 24 => ("TriggerStagesModel", "keyAt", "[I", true)
  | 25 => ("TriggerStagesModel", "numberAt", "[I", true)
  | 26 => ("TriggerStagesModel", "weightAt", "[I", true)
  | 27 => ("TriggerStagesModel", "stageAt", "[I", true)
  | 28 => ("TriggerStagesModel", "nextAt", "[I", true)
  | 29 => ("TriggerStagesModel", "moves", "[Z", true)
  | 30 => ("TriggerStagesModel", "waits", "I", false)
  | 31 => ("TriggerStagesModel", "waitTrigger", "[I", true)
  | 32 => ("TriggerStagesModel", "waitTable", "[I", true)
  | 33 => ("TriggerStagesModel", "waitKey", "[I", true)
  | 34 => ("TriggerStagesModel", "waitDepth", "[I", true)
  | 35 => ("TriggerStagesModel", "waitChain", "[I", true)
  | 36 => ("TriggerStagesModel", "fresh", "[I", true)
  | 37 => ("TriggerStagesModel", "sets", "[I", true)
  | 38 => ("TriggerStagesModel", "far", "[I", true)
  | 39 => ("TriggerStagesModel", "at", "I", false)
  | 40 => ("TriggerStagesModel", "isWell", "Z", false)
  | 41 => ("TriggerStagesModel", "told", "[I", true)
  | _ => ("TriggerStagesModel", "toldMany", "I", false)
def tyX9 : Nat → FieldType := fun k => match k with
  | 0 => .int
  | 1 => .array .int
  | 2 => .array .int
  | 3 => .array .int
  | 4 => .int
  | 5 => .array .int
  | 6 => .array .boolean
  | 7 => .array .int
  | 8 => .int
  | 9 => .int
  | 10 => .int
  | 11 => .int
  | 12 => .int
  | 13 => .int
  | 14 => .int
  | 15 => .int
  | 16 => .int
  | 17 => .array .int
  | 18 => .int
  | 19 => .int
  | 20 => .int
  | 21 => .array .int
  | 22 => .array .int
  | 23 => .array .int
  | 24 => .array .int
  | 25 => .array .int
  | 26 => .array .int
  | 27 => .array .int
  | 28 => .array .int
  | 29 => .array .boolean
  | 30 => .int
  | 31 => .array .int
  | 32 => .array .int
  | 33 => .array .int
  | 34 => .array .int
  | 35 => .array .int
  | 36 => .array .int
  | 37 => .array .int
  | 38 => .array .int
  | 39 => .int
  | 40 => .boolean
  | 41 => .array .int
  | _ => .int
abbrev wsX90 : List Cond := u_ws RX9 TX9 43
theorem nmX9 : ∀ a, a < 43 → ∀ b, b < 43 → a ≠ b → (TX9 a).2.1 ≠ (TX9 b).2.1 := by decide +kernel
theorem tyX9_ok : ∀ k, k < 43 → parseFieldDescriptor (TX9 k).2.2.1 = some (tyX9 k) := by decide +kernel
abbrev cX9_init : ByteArray := prog_11_method_1_code
def yX9_init : MethodName := ⟨RX9, "<init>", "()V"⟩
abbrev cX9_in : ByteArray := prog_11_method_3_code
def yX9_in : MethodName := ⟨RX9, "in", "(III)Z"⟩
abbrev cX9_isTable : ByteArray := prog_11_method_4_code
def yX9_isTable : MethodName := ⟨RX9, "isTable", "(I)Z"⟩
abbrev cX9_isTrigger : ByteArray := prog_11_method_5_code
def yX9_isTrigger : MethodName := ⟨RX9, "isTrigger", "(I)Z"⟩
abbrev cX9_of : ByteArray := prog_11_method_6_code
def yX9_of : MethodName := ⟨RX9, "of", "(II)I"⟩
abbrev cX9_records : ByteArray := prog_11_method_7_code
def yX9_records : MethodName := ⟨RX9, "records", "()V"⟩
abbrev cX9_putAside : ByteArray := prog_11_method_8_code
def yX9_putAside : MethodName := ⟨RX9, "putAside", "()V"⟩
abbrev cX9_takeBack : ByteArray := prog_11_method_9_code
def yX9_takeBack : MethodName := ⟨RX9, "takeBack", "()V"⟩
abbrev cX9_rowAt : ByteArray := prog_11_method_10_code
def yX9_rowAt : MethodName := ⟨RX9, "rowAt", "(II)I"⟩
abbrev cX9_rows : ByteArray := prog_11_method_11_code
def yX9_rows : MethodName := ⟨RX9, "rows", "(I)I"⟩
abbrev cX9_placeOf : ByteArray := prog_11_method_12_code
def yX9_placeOf : MethodName := ⟨RX9, "placeOf", "(II)I"⟩
abbrev cX9_numberOf : ByteArray := prog_11_method_13_code
def yX9_numberOf : MethodName := ⟨RX9, "numberOf", "(II)I"⟩
abbrev cX9_isPossible : ByteArray := prog_11_method_14_code
def yX9_isPossible : MethodName := ⟨RX9, "isPossible", "(IIII)Z"⟩
abbrev cX9_lays : ByteArray := prog_11_method_15_code
def yX9_lays : MethodName := ⟨RX9, "lays", "(III)V"⟩
abbrev cX9_drops : ByteArray := prog_11_method_16_code
def yX9_drops : MethodName := ⟨RX9, "drops", "(II)V"⟩
abbrev cX9_allRows : ByteArray := prog_11_method_17_code
def yX9_allRows : MethodName := ⟨RX9, "allRows", "()I"⟩
abbrev cX9_fails : ByteArray := prog_11_method_18_code
def yX9_fails : MethodName := ⟨RX9, "fails", "(IIII)V"⟩
abbrev cX9_begins : ByteArray := prog_11_method_19_code
def yX9_begins : MethodName := ⟨RX9, "begins", "(IIIII)V"⟩
abbrev cX9_isSetOff : ByteArray := prog_11_method_20_code
def yX9_isSetOff : MethodName := ⟨RX9, "isSetOff", "(III)Z"⟩
abbrev cX9_does : ByteArray := prog_11_method_21_code
def yX9_does : MethodName := ⟨RX9, "does", "(IIII)V"⟩
abbrev cX9_isDone : ByteArray := prog_11_method_22_code
def yX9_isDone : MethodName := ⟨RX9, "isDone", "(I)V"⟩
abbrev cX9_waitsFor : ByteArray := prog_11_method_23_code
def yX9_waitsFor : MethodName := ⟨RX9, "waitsFor", "(II)V"⟩
abbrev cX9_goesOn : ByteArray := prog_11_method_24_code
def yX9_goesOn : MethodName := ⟨RX9, "goesOn", "()V"⟩
abbrev cX9_clears : ByteArray := prog_11_method_25_code
def yX9_clears : MethodName := ⟨RX9, "clears", "()V"⟩
abbrev cX9_carries : ByteArray := prog_11_method_26_code
def yX9_carries : MethodName := ⟨RX9, "carries", "(IIII)V"⟩
abbrev cX9_writesJournal : ByteArray := prog_11_method_27_code
def yX9_writesJournal : MethodName := ⟨RX9, "writesJournal", "()V"⟩
abbrev cX9_states : ByteArray := prog_11_method_28_code
def yX9_states : MethodName := ⟨RX9, "states", "(IIII)Z"⟩
abbrev cX9_tries : ByteArray := prog_11_method_29_code
def yX9_tries : MethodName := ⟨RX9, "tries", "(IIII)Z"⟩
abbrev cX9_refuses : ByteArray := prog_11_method_30_code
def yX9_refuses : MethodName := ⟨RX9, "refuses", "(IIII)I"⟩
abbrev cX9_set : ByteArray := prog_11_method_31_code
def yX9_set : MethodName := ⟨RX9, "set", "(II)I"⟩
abbrev cX9_trigger : ByteArray := prog_11_method_32_code
def yX9_trigger : MethodName := ⟨RX9, "trigger", "(IIII)I"⟩
abbrev cX9_deed : ByteArray := prog_11_method_33_code
def yX9_deed : MethodName := ⟨RX9, "deed", "(IIIII)I"⟩
abbrev cX9_dropTrigger : ByteArray := prog_11_method_34_code
def yX9_dropTrigger : MethodName := ⟨RX9, "dropTrigger", "(I)I"⟩
abbrev cX9_state : ByteArray := prog_11_method_35_code
def yX9_state : MethodName := ⟨RX9, "state", "(IIII)I"⟩
abbrev cX9_tried : ByteArray := prog_11_method_36_code
def yX9_tried : MethodName := ⟨RX9, "tried", "(IIIII)I"⟩
abbrev cX9_row : ByteArray := prog_11_method_37_code
def yX9_row : MethodName := ⟨RX9, "row", "(III)I"⟩
abbrev cX9_value : ByteArray := prog_11_method_38_code
def yX9_value : MethodName := ⟨RX9, "value", "(II)I"⟩
abbrev cX9_laysSets : ByteArray := prog_11_method_39_code
def yX9_laysSets : MethodName := ⟨RX9, "laysSets", "()V"⟩
abbrev cX9_ofTrigger : ByteArray := prog_11_method_40_code
def yX9_ofTrigger : MethodName := ⟨RX9, "ofTrigger", "(II)I"⟩
abbrev cX9_journal : ByteArray := prog_11_method_41_code
def yX9_journal : MethodName := ⟨RX9, "journal", "(II)I"⟩
abbrev cX9_sumOfNumbers : ByteArray := prog_11_method_42_code
def yX9_sumOfNumbers : MethodName := ⟨RX9, "sumOfNumbers", "()I"⟩
abbrev cX9_selves : ByteArray := prog_11_method_43_code
def yX9_selves : MethodName := ⟨RX9, "selves", "()I"⟩
abbrev cX9_count : ByteArray := prog_11_method_44_code
def yX9_count : MethodName := ⟨RX9, "count", "(I)I"⟩
abbrev cX9_culprits : ByteArray := prog_11_method_45_code
def yX9_culprits : MethodName := ⟨RX9, "culprits", "(IIII)I"⟩
abbrev cX9_leastDepth : ByteArray := prog_11_method_46_code
def yX9_leastDepth : MethodName := ⟨RX9, "leastDepth", "(IIII)I"⟩
abbrev cX9_put : ByteArray := prog_11_method_47_code
def yX9_put : MethodName := ⟨RX9, "put", "(J)I"⟩
abbrev cX9_wipe : ByteArray := prog_11_method_48_code
def yX9_wipe : MethodName := ⟨RX9, "wipe", "()I"⟩
abbrev cX9_sign : ByteArray := prog_11_method_49_code
def yX9_sign : MethodName := ⟨RX9, "sign", "()I"⟩
abbrev cX9_takes : ByteArray := prog_11_method_50_code
def yX9_takes : MethodName := ⟨RX9, "takes", "(II)I"⟩
abbrev cX9_number : ByteArray := prog_11_method_51_code
def yX9_number : MethodName := ⟨RX9, "number", "(I)I"⟩
abbrev cX9_readsStatement : ByteArray := prog_11_method_52_code
def yX9_readsStatement : MethodName := ⟨RX9, "readsStatement", "()V"⟩
abbrev cX9_reads : ByteArray := prog_11_method_53_code
def yX9_reads : MethodName := ⟨RX9, "reads", "()I"⟩
abbrev cX9_fault : ByteArray := prog_11_method_54_code
def yX9_fault : MethodName := ⟨RX9, "fault", "()I"⟩
abbrev cX9_carryOut : ByteArray := prog_11_method_55_code
def yX9_carryOut : MethodName := ⟨RX9, "carryOut", "()I"⟩
abbrev cX9_undo : ByteArray := prog_11_method_56_code
def yX9_undo : MethodName := ⟨RX9, "undo", "()I"⟩
abbrev cX9_save : ByteArray := prog_11_method_57_code
def yX9_save : MethodName := ⟨RX9, "save", "(I)I"⟩
abbrev cX9_restore : ByteArray := prog_11_method_58_code
def yX9_restore : MethodName := ⟨RX9, "restore", "(I)I"⟩
def RL : String := "TriggerStagesLaw"
abbrev cL_law : ByteArray := code
def yL_law : MethodName := ⟨RL, "law", "([I)Z"⟩
abbrev vwCl : List vw_C := [(RX0, TX0, 11), (RX1, TX1, 5), (RX2, TX2, 3), (RX3, TX3, 4), (RX4, TX4, 4), (RX5, TX5, 5), (RX6, TX6, 3), (RX7, TX7, 1), (RX8, TX8, 5), (RX9, TX9, 43)]
/-- the words of the tables that every method carries -/
def TBL : List Cond := lw_tbl.filter goodWord
theorem tb_all {args : Array Value} {s : State} (h : ∀ w ∈ lw_tbl, w.before args s = true) : ∀ w ∈ TBL, w.before args s = true := fun w hw => h w (List.mem_filter.mp hw).1
theorem tb_good : ∀ w ∈ TBL, (w.onTables && w.keeps) = true ∨ ∃ ty, w = .arrayClass ty := fun w hw => good_of_word (List.mem_filter.mp hw).2
theorem tb_t {w : Cond} (h : w ∈ tables_1) (hg : goodWord w = true) : w ∈ TBL := List.mem_filter.mpr ⟨List.mem_append_right _ h, hg⟩
theorem tb_p {w : Cond} (h : w ∈ k2_sels lw_privs) (hg : goodWord w = true) : w ∈ TBL := List.mem_filter.mpr ⟨List.mem_append_left _ h, hg⟩
def ck0 : List Cond := [Cond.initialized RL, Cond.initialized RX8, Cond.initialized RX5, Cond.initialized RX6, Cond.initialized RX7, Cond.initialized RX4, Cond.initialized "java/lang/Math", Cond.initialized RX0, Cond.initialized RX1, Cond.initialized RX3, Cond.initialized RX2, Cond.initialized RX9, Cond.initialized "java/lang/System", Cond.classLink RL 7 RX8, Cond.instantiable RX8 5, Cond.methodLink RL 9 yX8_init, Cond.instanceMethod yX8_init, Cond.code yX8_init cX8_init 1 none, Cond.methodLink RX8 1 objectInit, Cond.instanceMethod objectInit, Cond.code objectInit ⟨#[0xb1]⟩ 1 none, Cond.classLink RX8 7 RX5, Cond.instantiable RX5 5, Cond.methodLink RX8 9 yX5_init, Cond.instanceMethod yX5_init]
def ck1 : List Cond := [Cond.code yX5_init cX5_init 1 none, Cond.methodLink RX5 3 objectInit, Cond.classLink RX5 9 RX6, Cond.instantiable RX6 3, Cond.methodLink RX5 11 yX6_init, Cond.instanceMethod yX6_init, Cond.code yX6_init cX6_init 1 none, Cond.methodLink RX6 3 objectInit, Cond.fieldLink RX6 9 "TriggerStages$Tables" "sizes" "[I", Cond.fieldLink RX6 15 "TriggerStages$Tables" "keys" "[I", Cond.fieldLink RX6 18 "TriggerStages$Tables" "numbers" "[I", Cond.laysFinal RX6 "TriggerStages$Tables" "sizes" "[I", Cond.soleField RX6 "sizes", Cond.laysFinal RX6 "TriggerStages$Tables" "keys" "[I", Cond.soleField RX6 "keys", Cond.laysFinal RX6 "TriggerStages$Tables" "numbers" "[I", Cond.soleField RX6 "numbers", Cond.superclass RX6 "java/lang/Object", Cond.arrayClass FieldType.int, Cond.classLink RX5 18 RX7, Cond.instantiable RX7 1, Cond.methodLink RX5 20 yX7_init, Cond.instanceMethod yX7_init, Cond.code yX7_init cX7_init 1 none, Cond.methodLink RX7 3 objectInit]
def ck2 : List Cond := [Cond.classLink RX7 9 RX4, Cond.instantiable RX4 4, Cond.methodLink RX7 13 yX4_init, Cond.instanceMethod yX4_init, Cond.code yX4_init cX4_init 3 none, Cond.methodLink RX4 3 objectInit, Cond.methodLink RX4 15 Lib.Math.max.name, Cond.static Lib.Math.max.name, Cond.code Lib.Math.max.name Lib.Math.max.code 2 (some .int), Cond.fieldLink RX4 21 "TriggerStages$Sheet" "limit" "I", Cond.fieldLink RX4 24 "TriggerStages$Sheet" "width" "I", Cond.fieldLink RX4 27 "TriggerStages$Sheet" "cells" "[I", Cond.fieldLink RX4 9 "TriggerStages$Sheet" "size" "I", Cond.laysFinal RX4 "TriggerStages$Sheet" "limit" "I", Cond.soleField RX4 "limit", Cond.laysFinal RX4 "TriggerStages$Sheet" "width" "I", Cond.soleField RX4 "width", Cond.laysFinal RX4 "TriggerStages$Sheet" "cells" "[I", Cond.soleField RX4 "cells", Cond.lays RX4 "TriggerStages$Sheet" "size" "I", Cond.soleField RX4 "size", Cond.superclass RX4 "java/lang/Object", Cond.fieldLink RX7 16 "TriggerStages$Triggers" "sheet" "LTriggerStages$Sheet;", Cond.fieldLink RX0 72 "TriggerStages$Triggers" "sheet" "LTriggerStages$Sheet;", Cond.laysFinal RX7 "TriggerStages$Triggers" "sheet" "LTriggerStages$Sheet;"]
def ck3 : List Cond := [Cond.soleField RX7 "sheet", Cond.superclass RX7 "java/lang/Object", Cond.classLink RX5 25 RX4, Cond.methodLink RX5 29 yX4_init, Cond.fieldLink RX5 12 "TriggerStages$State" "tables" "LTriggerStages$Tables;", Cond.fieldLink RX0 62 "TriggerStages$State" "tables" "LTriggerStages$Tables;", Cond.fieldLink RX8 135 "TriggerStages$State" "tables" "LTriggerStages$Tables;", Cond.fieldLink RX5 21 "TriggerStages$State" "triggers" "LTriggerStages$Triggers;", Cond.fieldLink RX0 69 "TriggerStages$State" "triggers" "LTriggerStages$Triggers;", Cond.fieldLink RX8 56 "TriggerStages$State" "triggers" "LTriggerStages$Triggers;", Cond.fieldLink RX5 32 "TriggerStages$State" "journal" "LTriggerStages$Sheet;", Cond.fieldLink RX8 102 "TriggerStages$State" "journal" "LTriggerStages$Sheet;", Cond.fieldLink RX5 36 "TriggerStages$State" "depth" "I", Cond.fieldLink RX8 49 "TriggerStages$State" "depth" "I", Cond.fieldLink RX5 40 "TriggerStages$State" "lenient" "I", Cond.fieldLink RX0 78 "TriggerStages$State" "lenient" "I", Cond.fieldLink RX8 53 "TriggerStages$State" "lenient" "I", Cond.laysFinal RX5 "TriggerStages$State" "tables" "LTriggerStages$Tables;", Cond.soleField RX5 "tables", Cond.laysFinal RX5 "TriggerStages$State" "triggers" "LTriggerStages$Triggers;", Cond.soleField RX5 "triggers", Cond.laysFinal RX5 "TriggerStages$State" "journal" "LTriggerStages$Sheet;", Cond.soleField RX5 "journal", Cond.lays RX5 "TriggerStages$State" "depth" "I", Cond.soleField RX5 "depth"]
def ck4 : List Cond := [Cond.lays RX5 "TriggerStages$State" "lenient" "I", Cond.soleField RX5 "lenient", Cond.superclass RX5 "java/lang/Object", Cond.classLink RX8 16 RX0, Cond.instantiable RX0 11, Cond.methodLink RX8 18 yX0_init, Cond.instanceMethod yX0_init, Cond.code yX0_init cX0_init 1 none, Cond.methodLink RX0 3 objectInit, Cond.classLink RX0 9 RX6, Cond.methodLink RX0 11 yX6_init, Cond.classLink RX0 18 RX4, Cond.methodLink RX0 20 yX4_init, Cond.classLink RX0 30 RX1, Cond.instantiable RX1 5, Cond.methodLink RX0 32 yX1_init, Cond.instanceMethod yX1_init, Cond.code yX1_init cX1_init 1 none, Cond.methodLink RX1 3 objectInit, Cond.fieldLink RX1 9 "TriggerStages$Failure" "reason" "I", Cond.fieldLink RX8 109 "TriggerStages$Failure" "reason" "I", Cond.fieldLink RX1 15 "TriggerStages$Failure" "table" "I", Cond.fieldLink RX8 122 "TriggerStages$Failure" "table" "I", Cond.fieldLink RX1 18 "TriggerStages$Failure" "key" "I", Cond.fieldLink RX8 125 "TriggerStages$Failure" "key" "I"]
def ck5 : List Cond := [Cond.fieldLink RX1 21 "TriggerStages$Failure" "blamed" "I", Cond.fieldLink RX8 128 "TriggerStages$Failure" "blamed" "I", Cond.fieldLink RX1 24 "TriggerStages$Failure" "chain" "[I", Cond.lays RX1 "TriggerStages$Failure" "reason" "I", Cond.soleField RX1 "reason", Cond.lays RX1 "TriggerStages$Failure" "table" "I", Cond.soleField RX1 "table", Cond.lays RX1 "TriggerStages$Failure" "key" "I", Cond.soleField RX1 "key", Cond.lays RX1 "TriggerStages$Failure" "blamed" "I", Cond.soleField RX1 "blamed", Cond.laysFinal RX1 "TriggerStages$Failure" "chain" "[I", Cond.soleField RX1 "chain", Cond.superclass RX1 "java/lang/Object", Cond.fieldLink RX0 12 "TriggerStages$Course" "tables" "LTriggerStages$Tables;", Cond.fieldLink RX8 198 "TriggerStages$Course" "tables" "LTriggerStages$Tables;", Cond.fieldLink RX0 23 "TriggerStages$Course" "journal" "LTriggerStages$Sheet;", Cond.fieldLink RX8 112 "TriggerStages$Course" "journal" "LTriggerStages$Sheet;", Cond.fieldLink RX0 27 "TriggerStages$Course" "begun" "LTriggerStages$Sheet;", Cond.fieldLink RX8 113 "TriggerStages$Course" "begun" "LTriggerStages$Sheet;", Cond.fieldLink RX0 33 "TriggerStages$Course" "failure" "LTriggerStages$Failure;", Cond.fieldLink RX8 89 "TriggerStages$Course" "failure" "LTriggerStages$Failure;", Cond.fieldLink RX0 37 "TriggerStages$Course" "leftOut" "I", Cond.fieldLink RX8 116 "TriggerStages$Course" "leftOut" "I", Cond.fieldLink RX0 43 "TriggerStages$Course" "triggers" "LTriggerStages$Sheet;"]
def ck6 : List Cond := [Cond.fieldLink RX0 46 "TriggerStages$Course" "waiting" "LTriggerStages$Sheet;", Cond.fieldLink RX0 49 "TriggerStages$Course" "isLenient" "Z", Cond.fieldLink RX0 53 "TriggerStages$Course" "depthLimit" "I", Cond.fieldLink RX0 56 "TriggerStages$Course" "without" "I", Cond.fieldLink RX0 59 "TriggerStages$Course" "inMotion" "I", Cond.laysFinal RX0 "TriggerStages$Course" "tables" "LTriggerStages$Tables;", Cond.soleField RX0 "tables", Cond.laysFinal RX0 "TriggerStages$Course" "journal" "LTriggerStages$Sheet;", Cond.soleField RX0 "journal", Cond.laysFinal RX0 "TriggerStages$Course" "begun" "LTriggerStages$Sheet;", Cond.soleField RX0 "begun", Cond.laysFinal RX0 "TriggerStages$Course" "failure" "LTriggerStages$Failure;", Cond.soleField RX0 "failure", Cond.lays RX0 "TriggerStages$Course" "leftOut" "I", Cond.soleField RX0 "leftOut", Cond.laysFinal RX0 "TriggerStages$Course" "triggers" "LTriggerStages$Sheet;", Cond.soleField RX0 "triggers", Cond.laysFinal RX0 "TriggerStages$Course" "waiting" "LTriggerStages$Sheet;", Cond.soleField RX0 "waiting", Cond.lays RX0 "TriggerStages$Course" "isLenient" "Z", Cond.soleField RX0 "isLenient", Cond.lays RX0 "TriggerStages$Course" "depthLimit" "I", Cond.soleField RX0 "depthLimit", Cond.lays RX0 "TriggerStages$Course" "without" "I", Cond.soleField RX0 "without"]
def ck7 : List Cond := [Cond.lays RX0 "TriggerStages$Course" "inMotion" "I", Cond.soleField RX0 "inMotion", Cond.superclass RX0 "java/lang/Object", Cond.classLink RX8 23 RX3, Cond.instantiable RX3 4, Cond.methodLink RX8 25 yX3_init, Cond.instanceMethod yX3_init, Cond.code yX3_init cX3_init 1 none, Cond.methodLink RX3 3 objectInit, Cond.classLink RX3 15 RX4, Cond.methodLink RX3 17 yX4_init, Cond.fieldLink RX3 9 "TriggerStages$Pad" "signs" "[C", Cond.fieldLink RX3 20 "TriggerStages$Pad" "parsed" "LTriggerStages$Sheet;", Cond.fieldLink RX3 24 "TriggerStages$Pad" "length" "I", Cond.fieldLink RX3 28 "TriggerStages$Pad" "at" "I", Cond.laysFinal RX3 "TriggerStages$Pad" "signs" "[C", Cond.soleField RX3 "signs", Cond.laysFinal RX3 "TriggerStages$Pad" "parsed" "LTriggerStages$Sheet;", Cond.soleField RX3 "parsed", Cond.lays RX3 "TriggerStages$Pad" "length" "I", Cond.soleField RX3 "length", Cond.lays RX3 "TriggerStages$Pad" "at" "I", Cond.soleField RX3 "at", Cond.superclass RX3 "java/lang/Object", Cond.arrayClass FieldType.char]
def ck8 : List Cond := [Cond.classLink RX8 30 RX2, Cond.instantiable RX2 3, Cond.methodLink RX8 32 yX2_init, Cond.instanceMethod yX2_init, Cond.code yX2_init cX2_init 1 none, Cond.methodLink RX2 3 objectInit, Cond.classLink RX2 9 RX5, Cond.arrayOver (FieldType.object RX5), Cond.fieldLink RX2 11 "TriggerStages$History" "ring" "[LTriggerStages$State;", Cond.fieldLink RX2 17 "TriggerStages$History" "oldest" "I", Cond.fieldLink RX2 21 "TriggerStages$History" "size" "I", Cond.laysFinal RX2 "TriggerStages$History" "ring" "[LTriggerStages$State;", Cond.soleField RX2 "ring", Cond.lays RX2 "TriggerStages$History" "oldest" "I", Cond.soleField RX2 "oldest", Cond.lays RX2 "TriggerStages$History" "size" "I", Cond.soleField RX2 "size", Cond.superclass RX2 "java/lang/Object", Cond.fieldLink RX8 10 "TriggerStages" "now" "LTriggerStages$State;", Cond.fieldLink RX8 19 "TriggerStages" "course" "LTriggerStages$Course;", Cond.fieldLink RX8 26 "TriggerStages" "pad" "LTriggerStages$Pad;", Cond.fieldLink RX8 33 "TriggerStages" "history" "LTriggerStages$History;", Cond.fieldLink RX8 37 "TriggerStages" "slots" "[LTriggerStages$State;", Cond.laysFinal RX8 "TriggerStages" "now" "LTriggerStages$State;", Cond.soleField RX8 "now"]
def ck9 : List Cond := [Cond.laysFinal RX8 "TriggerStages" "course" "LTriggerStages$Course;", Cond.soleField RX8 "course", Cond.laysFinal RX8 "TriggerStages" "pad" "LTriggerStages$Pad;", Cond.soleField RX8 "pad", Cond.laysFinal RX8 "TriggerStages" "history" "LTriggerStages$History;", Cond.soleField RX8 "history", Cond.laysFinal RX8 "TriggerStages" "slots" "[LTriggerStages$State;", Cond.soleField RX8 "slots", Cond.superclass RX8 "java/lang/Object", Cond.methodLink RL 13 yX8_set, Cond.instanceMethod yX8_set, Cond.selects RX8 yX8_set yX8_set, Cond.code yX8_set cX8_set 4 (some .int), Cond.methodLink RX8 41 yX8_isWithin, Cond.static yX8_isWithin]
set_option maxRecDepth 100000 in
theorem tq1 : tables_1_1 = ck0 ++ (ck1 ++ (ck2 ++ (ck3 ++ (ck4 ++ (ck5 ++ (ck6 ++ (ck7 ++ (ck8 ++ (ck9))))))))) := rfl
theorem ck0_in : ∀ w ∈ ck0, goodWord w = true → w ∈ TBL := fun w h => tb_t (show w ∈ tables_1 from (List.mem_append_left _ (tq1 ▸ (List.mem_append_left _ h) : w ∈ tables_1_1)))
theorem ck1_in : ∀ w ∈ ck1, goodWord w = true → w ∈ TBL := fun w h => tb_t (show w ∈ tables_1 from (List.mem_append_left _ (tq1 ▸ (List.mem_append_right _ (List.mem_append_left _ h)) : w ∈ tables_1_1)))
theorem ck2_in : ∀ w ∈ ck2, goodWord w = true → w ∈ TBL := fun w h => tb_t (show w ∈ tables_1 from (List.mem_append_left _ (tq1 ▸ (List.mem_append_right _ (List.mem_append_right _ (List.mem_append_left _ h))) : w ∈ tables_1_1)))
theorem ck3_in : ∀ w ∈ ck3, goodWord w = true → w ∈ TBL := fun w h => tb_t (show w ∈ tables_1 from (List.mem_append_left _ (tq1 ▸ (List.mem_append_right _ (List.mem_append_right _ (List.mem_append_right _ (List.mem_append_left _ h)))) : w ∈ tables_1_1)))
theorem ck4_in : ∀ w ∈ ck4, goodWord w = true → w ∈ TBL := fun w h => tb_t (show w ∈ tables_1 from (List.mem_append_left _ (tq1 ▸ (List.mem_append_right _ (List.mem_append_right _ (List.mem_append_right _ (List.mem_append_right _ (List.mem_append_left _ h))))) : w ∈ tables_1_1)))
theorem ck5_in : ∀ w ∈ ck5, goodWord w = true → w ∈ TBL := fun w h => tb_t (show w ∈ tables_1 from (List.mem_append_left _ (tq1 ▸ (List.mem_append_right _ (List.mem_append_right _ (List.mem_append_right _ (List.mem_append_right _ (List.mem_append_right _ (List.mem_append_left _ h)))))) : w ∈ tables_1_1)))
theorem ck6_in : ∀ w ∈ ck6, goodWord w = true → w ∈ TBL := fun w h => tb_t (show w ∈ tables_1 from (List.mem_append_left _ (tq1 ▸ (List.mem_append_right _ (List.mem_append_right _ (List.mem_append_right _ (List.mem_append_right _ (List.mem_append_right _ (List.mem_append_right _ (List.mem_append_left _ h))))))) : w ∈ tables_1_1)))
theorem ck7_in : ∀ w ∈ ck7, goodWord w = true → w ∈ TBL := fun w h => tb_t (show w ∈ tables_1 from (List.mem_append_left _ (tq1 ▸ (List.mem_append_right _ (List.mem_append_right _ (List.mem_append_right _ (List.mem_append_right _ (List.mem_append_right _ (List.mem_append_right _ (List.mem_append_right _ (List.mem_append_left _ h)))))))) : w ∈ tables_1_1)))
theorem ck8_in : ∀ w ∈ ck8, goodWord w = true → w ∈ TBL := fun w h => tb_t (show w ∈ tables_1 from (List.mem_append_left _ (tq1 ▸ (List.mem_append_right _ (List.mem_append_right _ (List.mem_append_right _ (List.mem_append_right _ (List.mem_append_right _ (List.mem_append_right _ (List.mem_append_right _ (List.mem_append_right _ (List.mem_append_left _ h))))))))) : w ∈ tables_1_1)))
theorem ck9_in : ∀ w ∈ ck9, goodWord w = true → w ∈ TBL := fun w h => tb_t (show w ∈ tables_1 from (List.mem_append_left _ (tq1 ▸ (List.mem_append_right _ (List.mem_append_right _ (List.mem_append_right _ (List.mem_append_right _ (List.mem_append_right _ (List.mem_append_right _ (List.mem_append_right _ (List.mem_append_right _ (List.mem_append_right _ h))))))))) : w ∈ tables_1_1)))
def ck10 : List Cond := [Cond.code yX8_isWithin cX8_isWithin 2 (some .boolean), Cond.methodLink RX8 45 yX2_keep, Cond.instanceMethod yX2_keep, Cond.selects RX2 yX2_keep yX2_keep, Cond.code yX2_keep cX2_keep 4 none]
def ck11 : List Cond := [Cond.methodLinkNest RX2 24 yX8_isWithin RX8]
def ck12 : List Cond := [Cond.methodLink RX2 28 yX5_init, Cond.methodLink RX2 29 yX5_copyFrom, Cond.instanceMethod yX5_copyFrom, Cond.selects RX5 yX5_copyFrom yX5_copyFrom, Cond.code yX5_copyFrom cX5_copyFrom 2 none, Cond.methodLink RX5 43 yX6_copyFrom, Cond.instanceMethod yX6_copyFrom, Cond.selects RX6 yX6_copyFrom yX6_copyFrom, Cond.code yX6_copyFrom cX6_copyFrom 2 none, Cond.methodLink RX6 21 arraycopyName, Cond.static arraycopyName, Cond.native arraycopyName, Cond.methodLink RX5 47 yX7_copyFrom, Cond.instanceMethod yX7_copyFrom, Cond.selects RX7 yX7_copyFrom yX7_copyFrom, Cond.code yX7_copyFrom cX7_copyFrom 2 none, Cond.methodLink RX7 20 yX4_copyFrom, Cond.instanceMethod yX4_copyFrom, Cond.selects RX4 yX4_copyFrom yX4_copyFrom, Cond.code yX4_copyFrom cX4_copyFrom 3 none, Cond.methodLink RX4 31 Lib.Math.min.name, Cond.static Lib.Math.min.name, Cond.code Lib.Math.min.name Lib.Math.min.code 2 (some .int), Cond.methodLink RX4 34 arraycopyName, Cond.methodLink RX5 50 yX4_copyFrom]
def ck13 : List Cond := [Cond.methodLink RL 18 yX8_trigger, Cond.instanceMethod yX8_trigger, Cond.selects RX8 yX8_trigger yX8_trigger, Cond.code yX8_trigger cX8_trigger 5 (some .int), Cond.methodLink RX8 60 yX7_size, Cond.instanceMethod yX7_size, Cond.selects RX7 yX7_size yX7_size, Cond.code yX7_size cX7_size 1 (some .int), Cond.methodLink RX7 24 yX4_size, Cond.instanceMethod yX4_size, Cond.selects RX4 yX4_size yX4_size, Cond.code yX4_size cX4_size 1 (some .int), Cond.methodLink RX8 66 yX7_append, Cond.instanceMethod yX7_append, Cond.selects RX7 yX7_append yX7_append, Cond.code yX7_append cX7_append 6 (some .int), Cond.methodLink RX7 32 yX4_append, Cond.instanceMethod yX4_append, Cond.selects RX4 yX4_append yX4_append, Cond.code yX4_append cX4_append 1 (some .int), Cond.methodLink RX7 35 yX4_change, Cond.instanceMethod yX4_change, Cond.selects RX4 yX4_change yX4_change, Cond.code yX4_change cX4_change 4 none, Cond.methodLink RX7 39 yX7_giveDeed]
def ck14 : List Cond := [Cond.instanceMethod yX7_giveDeed, Cond.selects RX7 yX7_giveDeed yX7_giveDeed, Cond.code yX7_giveDeed cX7_giveDeed 6 none, Cond.methodLink RL 23 yX8_deed, Cond.instanceMethod yX8_deed, Cond.selects RX8 yX8_deed yX8_deed, Cond.code yX8_deed cX8_deed 7 (some .int), Cond.methodLink RX8 70 yX7_get, Cond.instanceMethod yX7_get, Cond.selects RX7 yX7_get yX7_get, Cond.code yX7_get cX7_get 3 (some .int), Cond.methodLink RX7 28 yX4_get, Cond.instanceMethod yX4_get, Cond.selects RX4 yX4_get yX4_get, Cond.code yX4_get cX4_get 4 (some .int), Cond.methodLink RX8 74 yX7_giveDeed, Cond.methodLink RL 28 yX8_dropTrigger, Cond.instanceMethod yX8_dropTrigger, Cond.selects RX8 yX8_dropTrigger yX8_dropTrigger, Cond.code yX8_dropTrigger cX8_dropTrigger 2 (some .int), Cond.methodLink RX8 78 yX7_remove, Cond.instanceMethod yX7_remove, Cond.selects RX7 yX7_remove yX7_remove, Cond.code yX7_remove cX7_remove 2 none, Cond.methodLink RX7 43 yX4_remove]
def ck15 : List Cond := [Cond.instanceMethod yX4_remove, Cond.selects RX4 yX4_remove yX4_remove, Cond.code yX4_remove cX4_remove 3 none, Cond.methodLink RL 33 yX8_state, Cond.instanceMethod yX8_state, Cond.selects RX8 yX8_state yX8_state, Cond.code yX8_state cX8_state 6 (some .int), Cond.methodLink RX8 82 yX8_errorOf, Cond.static yX8_errorOf, Cond.code yX8_errorOf cX8_errorOf 4 (some .int), Cond.methodLink RX8 85 yX0_run, Cond.instanceMethod yX0_run, Cond.selects RX0 yX0_run yX0_run, Cond.code yX0_run cX0_run 11 none, Cond.methodLink RX0 65 yX6_copyFrom, Cond.methodLink RX0 75 yX4_copyFrom, Cond.methodLink RX0 81 yX4_clear, Cond.instanceMethod yX4_clear, Cond.selects RX4 yX4_clear yX4_clear, Cond.code yX4_clear cX4_clear 1 none, Cond.methodLink RX0 84 yX1_clear, Cond.instanceMethod yX1_clear, Cond.selects RX1 yX1_clear yX1_clear, Cond.code yX1_clear cX1_clear 1 none, Cond.methodLink RX0 85 yX0_carry]
def ck16 : List Cond := [Cond.privateMethod yX0_carry, Cond.instanceMethod yX0_carry, Cond.code yX0_carry cX0_carry 12 (some .boolean), Cond.methodLink RX0 106 yX1_tell, Cond.instanceMethod yX1_tell, Cond.selects RX1 yX1_tell yX1_tell, Cond.code yX1_tell cX1_tell 10 (some .boolean), Cond.methodLink RX1 34 yX4_get, Cond.methodLink RX1 40 Lib.Math.min.name, Cond.methodLink RX0 89 yX4_size, Cond.methodLink RX0 110 yX6_weightOf, Cond.instanceMethod yX6_weightOf, Cond.selects RX6 yX6_weightOf yX6_weightOf, Cond.code yX6_weightOf cX6_weightOf 7 (some .int), Cond.methodLink RX6 39 yX6_placeOf, Cond.instanceMethod yX6_placeOf, Cond.selects RX6 yX6_placeOf yX6_placeOf, Cond.code yX6_placeOf cX6_placeOf 5 (some .int), Cond.methodLink RX6 35 yX6_sizeOf, Cond.instanceMethod yX6_sizeOf, Cond.selects RX6 yX6_sizeOf yX6_sizeOf, Cond.code yX6_sizeOf cX6_sizeOf 2 (some .int)]
def ck17 : List Cond := [Cond.methodLinkNest RX6 27 yX8_isWithin RX8]
def ck18 : List Cond := [Cond.methodLink RX6 31 yX6_numberAt, Cond.instanceMethod yX6_numberAt, Cond.selects RX6 yX6_numberAt yX6_numberAt, Cond.code yX6_numberAt cX6_numberAt 3 (some .int), Cond.methodLink RX0 114 yX0_begin, Cond.privateMethod yX0_begin, Cond.instanceMethod yX0_begin, Cond.code yX0_begin cX0_begin 9 (some .int), Cond.methodLink RX0 136 yX4_append, Cond.methodLink RX0 139 yX4_change, Cond.methodLink RX0 118 yX0_isLeftOut, Cond.privateMethod yX0_isLeftOut, Cond.instanceMethod yX0_isLeftOut, Cond.code yX0_isLeftOut cX0_isLeftOut 2 (some .boolean), Cond.methodLink RX0 122 yX0_doStage, Cond.privateMethod yX0_doStage, Cond.instanceMethod yX0_doStage, Cond.code yX0_doStage cX0_doStage 5 (some .boolean), Cond.methodLink RX0 143 yX0_isSetOff, Cond.privateMethod yX0_isSetOff, Cond.instanceMethod yX0_isSetOff, Cond.code yX0_isSetOff cX0_isSetOff 4 (some .boolean), Cond.methodLink RX0 93 yX4_get, Cond.methodLink RX0 97 yX0_doDeed, Cond.privateMethod yX0_doDeed]
def ck19 : List Cond := [Cond.instanceMethod yX0_doDeed, Cond.code yX0_doDeed cX0_doDeed 7 (some .boolean), Cond.methodLink RX0 125 yX6_apply, Cond.instanceMethod yX6_apply, Cond.selects RX6 yX6_apply yX6_apply, Cond.code yX6_apply cX6_apply 5 none, Cond.methodLink RX6 42 yX6_insert, Cond.privateMethod yX6_insert, Cond.instanceMethod yX6_insert, Cond.code yX6_insert cX6_insert 6 none, Cond.methodLink RX6 46 yX6_renumber, Cond.privateMethod yX6_renumber, Cond.instanceMethod yX6_renumber, Cond.code yX6_renumber cX6_renumber 4 none, Cond.methodLink RX6 49 yX6_remove, Cond.privateMethod yX6_remove, Cond.instanceMethod yX6_remove, Cond.code yX6_remove cX6_remove 5 none, Cond.methodLink RX0 129 yX0_noteDone, Cond.privateMethod yX0_noteDone, Cond.instanceMethod yX0_noteDone, Cond.code yX0_noteDone cX0_noteDone 4 none, Cond.methodLink RX0 133 yX0_queueLastStage, Cond.privateMethod yX0_queueLastStage, Cond.instanceMethod yX0_queueLastStage]
def ck20 : List Cond := [Cond.code yX0_queueLastStage cX0_queueLastStage 4 none, Cond.methodLink RX8 93 yX1_isThere, Cond.instanceMethod yX1_isThere, Cond.selects RX1 yX1_isThere yX1_isThere, Cond.code yX1_isThere cX1_isThere 1 (some .boolean), Cond.methodLink RX8 99 yX8_takeOver, Cond.privateMethod yX8_takeOver, Cond.instanceMethod yX8_takeOver, Cond.code yX8_takeOver cX8_takeOver 1 none, Cond.methodLink RX8 199 yX6_copyFrom, Cond.methodLink RX8 202 yX4_copyFrom, Cond.methodLink RX8 106 yX4_size, Cond.methodLink RL 37 yX8_tried, Cond.instanceMethod yX8_tried, Cond.selects RX8 yX8_tried yX8_tried, Cond.code yX8_tried cX8_tried 8 (some .int), Cond.methodLink RX8 119 yX0_greatestDepth, Cond.instanceMethod yX0_greatestDepth, Cond.selects RX0 yX0_greatestDepth yX0_greatestDepth, Cond.code yX0_greatestDepth cX0_greatestDepth 3 (some .int), Cond.methodLink RX0 101 Lib.Math.max.name, Cond.methodLink RX8 131 yX1_blamedAt, Cond.instanceMethod yX1_blamedAt, Cond.selects RX1 yX1_blamedAt yX1_blamedAt, Cond.code yX1_blamedAt cX1_blamedAt 2 (some .int)]
def ck21 : List Cond := [Cond.methodLinkNest RX1 28 yX8_isWithin RX8]
def ck22 : List Cond := [Cond.methodLink RL 41 yX8_row, Cond.instanceMethod yX8_row, Cond.selects RX8 yX8_row yX8_row, Cond.code yX8_row cX8_row 4 (some .int), Cond.methodLink RX8 139 yX6_sizeOf, Cond.methodLink RX8 144 yX6_keyAt, Cond.instanceMethod yX6_keyAt, Cond.selects RX6 yX6_keyAt yX6_keyAt, Cond.code yX6_keyAt cX6_keyAt 3 (some .int), Cond.methodLink RX8 147 yX6_numberAt, Cond.methodLink RL 46 yX8_value, Cond.instanceMethod yX8_value, Cond.selects RX8 yX8_value yX8_value, Cond.code yX8_value cX8_value 4 (some .int), Cond.methodLink RX8 150 yX6_placeOf, Cond.methodLink RL 50 yX8_ofTrigger, Cond.instanceMethod yX8_ofTrigger, Cond.selects RX8 yX8_ofTrigger yX8_ofTrigger, Cond.code yX8_ofTrigger cX8_ofTrigger 3 (some .int), Cond.methodLink RX8 153 yX7_followers, Cond.instanceMethod yX7_followers, Cond.selects RX7 yX7_followers yX7_followers, Cond.code yX7_followers cX7_followers 6 (some .int), Cond.methodLink RX8 156 yX7_couldSetOffItself, Cond.instanceMethod yX7_couldSetOffItself]
def ck23 : List Cond := [Cond.selects RX7 yX7_couldSetOffItself yX7_couldSetOffItself, Cond.code yX7_couldSetOffItself cX7_couldSetOffItself 4 (some .boolean), Cond.methodLink RX7 47 yX7_followers, Cond.methodLink RX7 51 yX7_followersOfAll, Cond.privateMethod yX7_followersOfAll, Cond.instanceMethod yX7_followersOfAll, Cond.code yX7_followersOfAll cX7_followersOfAll 4 (some .int), Cond.methodLink RX7 54 yX7_isIn, Cond.static yX7_isIn, Cond.code yX7_isIn cX7_isIn 2 (some .boolean)]
set_option maxRecDepth 100000 in
theorem tq2 : tables_1_2 = ck10 ++ (ck11 ++ (ck12 ++ (ck13 ++ (ck14 ++ (ck15 ++ (ck16 ++ (ck17 ++ (ck18 ++ (ck19 ++ (ck20 ++ (ck21 ++ (ck22 ++ (ck23))))))))))))) := rfl
theorem ck10_in : ∀ w ∈ ck10, goodWord w = true → w ∈ TBL := fun w h => tb_t (show w ∈ tables_1 from (List.mem_append_right _ (List.mem_append_left _ (tq2 ▸ (List.mem_append_left _ h) : w ∈ tables_1_2))))
theorem ck11_lw : ∀ w ∈ ck11, w ∈ lw_tbl := fun w h => List.mem_append_right _ (show w ∈ tables_1 from (List.mem_append_right _ (List.mem_append_left _ (tq2 ▸ (List.mem_append_right _ (List.mem_append_left _ h)) : w ∈ tables_1_2))))
theorem ck12_in : ∀ w ∈ ck12, goodWord w = true → w ∈ TBL := fun w h => tb_t (show w ∈ tables_1 from (List.mem_append_right _ (List.mem_append_left _ (tq2 ▸ (List.mem_append_right _ (List.mem_append_right _ (List.mem_append_left _ h))) : w ∈ tables_1_2))))
theorem ck13_in : ∀ w ∈ ck13, goodWord w = true → w ∈ TBL := fun w h => tb_t (show w ∈ tables_1 from (List.mem_append_right _ (List.mem_append_left _ (tq2 ▸ (List.mem_append_right _ (List.mem_append_right _ (List.mem_append_right _ (List.mem_append_left _ h)))) : w ∈ tables_1_2))))
theorem ck14_in : ∀ w ∈ ck14, goodWord w = true → w ∈ TBL := fun w h => tb_t (show w ∈ tables_1 from (List.mem_append_right _ (List.mem_append_left _ (tq2 ▸ (List.mem_append_right _ (List.mem_append_right _ (List.mem_append_right _ (List.mem_append_right _ (List.mem_append_left _ h))))) : w ∈ tables_1_2))))
theorem ck15_in : ∀ w ∈ ck15, goodWord w = true → w ∈ TBL := fun w h => tb_t (show w ∈ tables_1 from (List.mem_append_right _ (List.mem_append_left _ (tq2 ▸ (List.mem_append_right _ (List.mem_append_right _ (List.mem_append_right _ (List.mem_append_right _ (List.mem_append_right _ (List.mem_append_left _ h)))))) : w ∈ tables_1_2))))
theorem ck16_in : ∀ w ∈ ck16, goodWord w = true → w ∈ TBL := fun w h => tb_t (show w ∈ tables_1 from (List.mem_append_right _ (List.mem_append_left _ (tq2 ▸ (List.mem_append_right _ (List.mem_append_right _ (List.mem_append_right _ (List.mem_append_right _ (List.mem_append_right _ (List.mem_append_right _ (List.mem_append_left _ h))))))) : w ∈ tables_1_2))))
theorem ck17_lw : ∀ w ∈ ck17, w ∈ lw_tbl := fun w h => List.mem_append_right _ (show w ∈ tables_1 from (List.mem_append_right _ (List.mem_append_left _ (tq2 ▸ (List.mem_append_right _ (List.mem_append_right _ (List.mem_append_right _ (List.mem_append_right _ (List.mem_append_right _ (List.mem_append_right _ (List.mem_append_right _ (List.mem_append_left _ h)))))))) : w ∈ tables_1_2))))
theorem ck18_in : ∀ w ∈ ck18, goodWord w = true → w ∈ TBL := fun w h => tb_t (show w ∈ tables_1 from (List.mem_append_right _ (List.mem_append_left _ (tq2 ▸ (List.mem_append_right _ (List.mem_append_right _ (List.mem_append_right _ (List.mem_append_right _ (List.mem_append_right _ (List.mem_append_right _ (List.mem_append_right _ (List.mem_append_right _ (List.mem_append_left _ h))))))))) : w ∈ tables_1_2))))
theorem ck19_in : ∀ w ∈ ck19, goodWord w = true → w ∈ TBL := fun w h => tb_t (show w ∈ tables_1 from (List.mem_append_right _ (List.mem_append_left _ (tq2 ▸ (List.mem_append_right _ (List.mem_append_right _ (List.mem_append_right _ (List.mem_append_right _ (List.mem_append_right _ (List.mem_append_right _ (List.mem_append_right _ (List.mem_append_right _ (List.mem_append_right _ (List.mem_append_left _ h)))))))))) : w ∈ tables_1_2))))
theorem ck20_in : ∀ w ∈ ck20, goodWord w = true → w ∈ TBL := fun w h => tb_t (show w ∈ tables_1 from (List.mem_append_right _ (List.mem_append_left _ (tq2 ▸ (List.mem_append_right _ (List.mem_append_right _ (List.mem_append_right _ (List.mem_append_right _ (List.mem_append_right _ (List.mem_append_right _ (List.mem_append_right _ (List.mem_append_right _ (List.mem_append_right _ (List.mem_append_right _ (List.mem_append_left _ h))))))))))) : w ∈ tables_1_2))))
theorem ck21_lw : ∀ w ∈ ck21, w ∈ lw_tbl := fun w h => List.mem_append_right _ (show w ∈ tables_1 from (List.mem_append_right _ (List.mem_append_left _ (tq2 ▸ (List.mem_append_right _ (List.mem_append_right _ (List.mem_append_right _ (List.mem_append_right _ (List.mem_append_right _ (List.mem_append_right _ (List.mem_append_right _ (List.mem_append_right _ (List.mem_append_right _ (List.mem_append_right _ (List.mem_append_right _ (List.mem_append_left _ h)))))))))))) : w ∈ tables_1_2))))
theorem ck22_in : ∀ w ∈ ck22, goodWord w = true → w ∈ TBL := fun w h => tb_t (show w ∈ tables_1 from (List.mem_append_right _ (List.mem_append_left _ (tq2 ▸ (List.mem_append_right _ (List.mem_append_right _ (List.mem_append_right _ (List.mem_append_right _ (List.mem_append_right _ (List.mem_append_right _ (List.mem_append_right _ (List.mem_append_right _ (List.mem_append_right _ (List.mem_append_right _ (List.mem_append_right _ (List.mem_append_right _ (List.mem_append_left _ h))))))))))))) : w ∈ tables_1_2))))
theorem ck23_in : ∀ w ∈ ck23, goodWord w = true → w ∈ TBL := fun w h => tb_t (show w ∈ tables_1 from (List.mem_append_right _ (List.mem_append_left _ (tq2 ▸ (List.mem_append_right _ (List.mem_append_right _ (List.mem_append_right _ (List.mem_append_right _ (List.mem_append_right _ (List.mem_append_right _ (List.mem_append_right _ (List.mem_append_right _ (List.mem_append_right _ (List.mem_append_right _ (List.mem_append_right _ (List.mem_append_right _ (List.mem_append_right _ h))))))))))))) : w ∈ tables_1_2))))
def ck24 : List Cond := [Cond.methodLink RL 54 yX8_journal, Cond.instanceMethod yX8_journal, Cond.selects RX8 yX8_journal yX8_journal, Cond.code yX8_journal cX8_journal 3 (some .int), Cond.methodLink RX8 160 yX4_get, Cond.methodLink RL 58 yX8_count, Cond.instanceMethod yX8_count, Cond.selects RX8 yX8_count yX8_count, Cond.code yX8_count cX8_count 2 (some .int), Cond.methodLink RX8 161 yX6_sumOfNumbers, Cond.instanceMethod yX6_sumOfNumbers, Cond.selects RX6 yX6_sumOfNumbers yX6_sumOfNumbers, Cond.code yX6_sumOfNumbers cX6_sumOfNumbers 4 (some .int), Cond.methodLink RX8 164 yX7_thoseThatCouldSetOffThemselves, Cond.instanceMethod yX7_thoseThatCouldSetOffThemselves, Cond.selects RX7 yX7_thoseThatCouldSetOffThemselves yX7_thoseThatCouldSetOffThemselves, Cond.code yX7_thoseThatCouldSetOffThemselves cX7_thoseThatCouldSetOffThemselves 3 (some .int), Cond.methodLink RX7 58 yX7_couldSetOffItself, Cond.methodLink RX8 167 yX3_length, Cond.instanceMethod yX3_length, Cond.selects RX3 yX3_length yX3_length, Cond.code yX3_length cX3_length 1 (some .int), Cond.methodLink RX8 170 yX2_size, Cond.instanceMethod yX2_size, Cond.selects RX2 yX2_size yX2_size]
def ck25 : List Cond := [Cond.code yX2_size cX2_size 1 (some .int), Cond.methodLink RL 62 yX8_culprits, Cond.instanceMethod yX8_culprits, Cond.selects RX8 yX8_culprits yX8_culprits, Cond.code yX8_culprits cX8_culprits 8 (some .int), Cond.methodLink RL 66 yX8_leastDepth, Cond.instanceMethod yX8_leastDepth, Cond.selects RX8 yX8_leastDepth yX8_leastDepth, Cond.code yX8_leastDepth cX8_leastDepth 7 (some .int), Cond.methodLink RL 72 yX8_put, Cond.instanceMethod yX8_put, Cond.selects RX8 yX8_put yX8_put, Cond.code yX8_put cX8_put 4 (some .int), Cond.methodLink RX8 171 yX3_signsIn, Cond.static yX3_signsIn, Cond.code yX3_signsIn cX3_signsIn 6 (some .int), Cond.constantLong RX3 31 255, Cond.methodLink RX8 175 yX3_append, Cond.instanceMethod yX3_append, Cond.selects RX3 yX3_append yX3_append, Cond.code yX3_append cX3_append 5 none, Cond.methodLink RL 77 yX8_wipe, Cond.instanceMethod yX8_wipe, Cond.selects RX8 yX8_wipe yX8_wipe, Cond.code yX8_wipe cX8_wipe 2 (some .int)]
def ck26 : List Cond := [Cond.methodLink RX8 178 yX3_clear, Cond.instanceMethod yX3_clear, Cond.selects RX3 yX3_clear yX3_clear, Cond.code yX3_clear cX3_clear 1 none, Cond.methodLink RL 82 yX8_fault, Cond.instanceMethod yX8_fault, Cond.selects RX8 yX8_fault yX8_fault, Cond.code yX8_fault cX8_fault 1 (some .int), Cond.methodLink RX8 181 yX3_read, Cond.instanceMethod yX3_read, Cond.selects RX3 yX3_read yX3_read, Cond.code yX3_read cX3_read 2 (some .int), Cond.methodLink RX3 41 yX4_clear, Cond.methodLink RX3 44 yX3_readStatement, Cond.privateMethod yX3_readStatement, Cond.instanceMethod yX3_readStatement, Cond.code yX3_readStatement cX3_readStatement 5 (some .boolean), Cond.methodLink RX3 52 yX3_readKind, Cond.privateMethod yX3_readKind, Cond.instanceMethod yX3_readKind, Cond.code yX3_readKind cX3_readKind 1 (some .int), Cond.methodLink RX3 48 yX3_accepts, Cond.privateMethod yX3_accepts, Cond.instanceMethod yX3_accepts, Cond.code yX3_accepts cX3_accepts 2 (some .boolean)]
def ck27 : List Cond := [Cond.methodLink RX3 70 yX3_next, Cond.privateMethod yX3_next, Cond.instanceMethod yX3_next, Cond.code yX3_next cX3_next 1 (some .char)]
def ck28 : List Cond := [Cond.methodLinkNest RX3 66 yX8_isWithin RX8]
def ck29 : List Cond := [Cond.methodLink RX3 55 yX3_readNumber, Cond.privateMethod yX3_readNumber, Cond.instanceMethod yX3_readNumber, Cond.code yX3_readNumber cX3_readNumber 3 (some .int), Cond.methodLink RX3 63 yX3_digit, Cond.privateMethod yX3_digit, Cond.instanceMethod yX3_digit, Cond.code yX3_digit cX3_digit 2 (some .int), Cond.methodLink RX3 59 yX3_keep, Cond.privateMethod yX3_keep, Cond.instanceMethod yX3_keep, Cond.code yX3_keep cX3_keep 6 none, Cond.methodLink RX3 74 yX4_append, Cond.methodLink RX3 77 yX4_change, Cond.methodLink RL 86 yX8_carryOut, Cond.instanceMethod yX8_carryOut, Cond.selects RX8 yX8_carryOut yX8_carryOut, Cond.code yX8_carryOut cX8_carryOut 2 (some .int), Cond.methodLink RX8 184 yX3_statements, Cond.instanceMethod yX3_statements, Cond.selects RX3 yX3_statements yX3_statements, Cond.code yX3_statements cX3_statements 1 (some .int), Cond.methodLink RX3 33 yX4_size, Cond.methodLink RX8 187 yX3_get, Cond.instanceMethod yX3_get]
def ck30 : List Cond := [Cond.selects RX3 yX3_get yX3_get, Cond.code yX3_get cX3_get 3 (some .int), Cond.methodLink RX3 37 yX4_get, Cond.methodLink RL 90 yX8_undo, Cond.instanceMethod yX8_undo, Cond.selects RX8 yX8_undo yX8_undo, Cond.code yX8_undo cX8_undo 1 (some .int), Cond.methodLink RX8 188 yX2_takeBack, Cond.instanceMethod yX2_takeBack, Cond.selects RX2 yX2_takeBack yX2_takeBack, Cond.code yX2_takeBack cX2_takeBack 4 (some .boolean), Cond.methodLink RL 94 yX8_save, Cond.instanceMethod yX8_save, Cond.selects RX8 yX8_save yX8_save, Cond.code yX8_save cX8_save 3 (some .int), Cond.methodLink RX8 192 yX5_copyFrom, Cond.methodLink RX8 195 yX6_rows, Cond.instanceMethod yX6_rows, Cond.selects RX6 yX6_rows yX6_rows, Cond.code yX6_rows cX6_rows 3 (some .int), Cond.methodLink RL 98 yX8_restore, Cond.instanceMethod yX8_restore, Cond.selects RX8 yX8_restore yX8_restore, Cond.code yX8_restore cX8_restore 3 (some .int), Cond.classLink RL 10 RX9]
def ck31 : List Cond := [Cond.instantiable RX9 43, Cond.methodLink RL 12 yX9_init, Cond.instanceMethod yX9_init, Cond.code yX9_init cX9_init 1 none, Cond.methodLink RX9 1 objectInit, Cond.fieldLink RX9 90 "TriggerStagesModel" "thrown" "I", Cond.fieldLink RX9 7 "TriggerStagesModel" "s" "[I", Cond.fieldLink RX9 13 "TriggerStagesModel" "aside" "[I", Cond.fieldLink RX9 16 "TriggerStagesModel" "undos" "[I", Cond.fieldLink RX9 97 "TriggerStagesModel" "undoMany" "I", Cond.fieldLink RX9 19 "TriggerStagesModel" "slots" "[I", Cond.fieldLink RX9 22 "TriggerStagesModel" "hasSlot" "[Z", Cond.fieldLink RX9 26 "TriggerStagesModel" "pad" "[I", Cond.fieldLink RX9 231 "TriggerStagesModel" "length" "I", Cond.fieldLink RX9 114 "TriggerStagesModel" "reason" "I", Cond.fieldLink RX9 130 "TriggerStagesModel" "begun" "I", Cond.fieldLink RX9 140 "TriggerStagesModel" "left" "I", Cond.fieldLink RX9 133 "TriggerStagesModel" "deepest" "I", Cond.fieldLink RX9 161 "TriggerStagesModel" "done" "I", Cond.fieldLink RX9 117 "TriggerStagesModel" "badTable" "I", Cond.fieldLink RX9 120 "TriggerStagesModel" "badKey" "I", Cond.fieldLink RX9 123 "TriggerStagesModel" "chainMany" "I", Cond.fieldLink RX9 29 "TriggerStagesModel" "chain" "[I", Cond.fieldLink RX9 32 "TriggerStagesModel" "without" "I", Cond.fieldLink RX9 180 "TriggerStagesModel" "low" "I"]
def ck32 : List Cond := [Cond.fieldLink RX9 143 "TriggerStagesModel" "top" "I", Cond.fieldLink RX9 36 "TriggerStagesModel" "path" "[I", Cond.fieldLink RX9 39 "TriggerStagesModel" "kindAt" "[I", Cond.fieldLink RX9 42 "TriggerStagesModel" "tableAt" "[I", Cond.fieldLink RX9 45 "TriggerStagesModel" "keyAt" "[I", Cond.fieldLink RX9 48 "TriggerStagesModel" "numberAt" "[I", Cond.fieldLink RX9 51 "TriggerStagesModel" "weightAt" "[I", Cond.fieldLink RX9 54 "TriggerStagesModel" "stageAt" "[I", Cond.fieldLink RX9 57 "TriggerStagesModel" "nextAt" "[I", Cond.fieldLink RX9 60 "TriggerStagesModel" "moves" "[Z", Cond.fieldLink RX9 164 "TriggerStagesModel" "waits" "I", Cond.fieldLink RX9 63 "TriggerStagesModel" "waitTrigger" "[I", Cond.fieldLink RX9 66 "TriggerStagesModel" "waitTable" "[I", Cond.fieldLink RX9 69 "TriggerStagesModel" "waitKey" "[I", Cond.fieldLink RX9 72 "TriggerStagesModel" "waitDepth" "[I", Cond.fieldLink RX9 75 "TriggerStagesModel" "waitChain" "[I", Cond.fieldLink RX9 78 "TriggerStagesModel" "fresh" "[I", Cond.fieldLink RX9 81 "TriggerStagesModel" "sets" "[I", Cond.fieldLink RX9 84 "TriggerStagesModel" "far" "[I", Cond.fieldLink RX9 236 "TriggerStagesModel" "at" "I", Cond.fieldLink RX9 239 "TriggerStagesModel" "isWell" "Z", Cond.fieldLink RX9 87 "TriggerStagesModel" "told" "[I", Cond.fieldLink RX9 252 "TriggerStagesModel" "toldMany" "I", Cond.lays RX9 "TriggerStagesModel" "thrown" "I", Cond.soleField RX9 "thrown"]
def ck33 : List Cond := [Cond.laysFinal RX9 "TriggerStagesModel" "s" "[I", Cond.soleField RX9 "s", Cond.laysFinal RX9 "TriggerStagesModel" "aside" "[I", Cond.soleField RX9 "aside", Cond.laysFinal RX9 "TriggerStagesModel" "undos" "[I", Cond.soleField RX9 "undos", Cond.lays RX9 "TriggerStagesModel" "undoMany" "I", Cond.soleField RX9 "undoMany", Cond.laysFinal RX9 "TriggerStagesModel" "slots" "[I", Cond.soleField RX9 "slots", Cond.laysFinal RX9 "TriggerStagesModel" "hasSlot" "[Z", Cond.soleField RX9 "hasSlot", Cond.laysFinal RX9 "TriggerStagesModel" "pad" "[I", Cond.soleField RX9 "pad", Cond.lays RX9 "TriggerStagesModel" "length" "I", Cond.soleField RX9 "length", Cond.lays RX9 "TriggerStagesModel" "reason" "I", Cond.soleField RX9 "reason", Cond.lays RX9 "TriggerStagesModel" "begun" "I", Cond.soleField RX9 "begun", Cond.lays RX9 "TriggerStagesModel" "left" "I", Cond.soleField RX9 "left", Cond.lays RX9 "TriggerStagesModel" "deepest" "I", Cond.soleField RX9 "deepest", Cond.lays RX9 "TriggerStagesModel" "done" "I"]
def ck34 : List Cond := [Cond.soleField RX9 "done", Cond.lays RX9 "TriggerStagesModel" "badTable" "I", Cond.soleField RX9 "badTable", Cond.lays RX9 "TriggerStagesModel" "badKey" "I", Cond.soleField RX9 "badKey", Cond.lays RX9 "TriggerStagesModel" "chainMany" "I", Cond.soleField RX9 "chainMany", Cond.laysFinal RX9 "TriggerStagesModel" "chain" "[I", Cond.soleField RX9 "chain", Cond.lays RX9 "TriggerStagesModel" "without" "I", Cond.soleField RX9 "without", Cond.lays RX9 "TriggerStagesModel" "low" "I", Cond.soleField RX9 "low", Cond.lays RX9 "TriggerStagesModel" "top" "I", Cond.soleField RX9 "top", Cond.laysFinal RX9 "TriggerStagesModel" "path" "[I", Cond.soleField RX9 "path", Cond.laysFinal RX9 "TriggerStagesModel" "kindAt" "[I", Cond.soleField RX9 "kindAt", Cond.laysFinal RX9 "TriggerStagesModel" "tableAt" "[I", Cond.soleField RX9 "tableAt", Cond.laysFinal RX9 "TriggerStagesModel" "keyAt" "[I", Cond.soleField RX9 "keyAt", Cond.laysFinal RX9 "TriggerStagesModel" "numberAt" "[I", Cond.soleField RX9 "numberAt"]
def ck35 : List Cond := [Cond.laysFinal RX9 "TriggerStagesModel" "weightAt" "[I", Cond.soleField RX9 "weightAt", Cond.laysFinal RX9 "TriggerStagesModel" "stageAt" "[I", Cond.soleField RX9 "stageAt", Cond.laysFinal RX9 "TriggerStagesModel" "nextAt" "[I", Cond.soleField RX9 "nextAt", Cond.laysFinal RX9 "TriggerStagesModel" "moves" "[Z", Cond.soleField RX9 "moves", Cond.lays RX9 "TriggerStagesModel" "waits" "I", Cond.soleField RX9 "waits"]
set_option maxRecDepth 100000 in
theorem tq3 : tables_1_3 = ck24 ++ (ck25 ++ (ck26 ++ (ck27 ++ (ck28 ++ (ck29 ++ (ck30 ++ (ck31 ++ (ck32 ++ (ck33 ++ (ck34 ++ (ck35))))))))))) := rfl
theorem ck24_in : ∀ w ∈ ck24, goodWord w = true → w ∈ TBL := fun w h => tb_t (show w ∈ tables_1 from (List.mem_append_right _ (List.mem_append_right _ (List.mem_append_left _ (tq3 ▸ (List.mem_append_left _ h) : w ∈ tables_1_3)))))
theorem ck25_in : ∀ w ∈ ck25, goodWord w = true → w ∈ TBL := fun w h => tb_t (show w ∈ tables_1 from (List.mem_append_right _ (List.mem_append_right _ (List.mem_append_left _ (tq3 ▸ (List.mem_append_right _ (List.mem_append_left _ h)) : w ∈ tables_1_3)))))
theorem ck26_in : ∀ w ∈ ck26, goodWord w = true → w ∈ TBL := fun w h => tb_t (show w ∈ tables_1 from (List.mem_append_right _ (List.mem_append_right _ (List.mem_append_left _ (tq3 ▸ (List.mem_append_right _ (List.mem_append_right _ (List.mem_append_left _ h))) : w ∈ tables_1_3)))))
theorem ck27_in : ∀ w ∈ ck27, goodWord w = true → w ∈ TBL := fun w h => tb_t (show w ∈ tables_1 from (List.mem_append_right _ (List.mem_append_right _ (List.mem_append_left _ (tq3 ▸ (List.mem_append_right _ (List.mem_append_right _ (List.mem_append_right _ (List.mem_append_left _ h)))) : w ∈ tables_1_3)))))
theorem ck28_lw : ∀ w ∈ ck28, w ∈ lw_tbl := fun w h => List.mem_append_right _ (show w ∈ tables_1 from (List.mem_append_right _ (List.mem_append_right _ (List.mem_append_left _ (tq3 ▸ (List.mem_append_right _ (List.mem_append_right _ (List.mem_append_right _ (List.mem_append_right _ (List.mem_append_left _ h))))) : w ∈ tables_1_3)))))
theorem ck29_in : ∀ w ∈ ck29, goodWord w = true → w ∈ TBL := fun w h => tb_t (show w ∈ tables_1 from (List.mem_append_right _ (List.mem_append_right _ (List.mem_append_left _ (tq3 ▸ (List.mem_append_right _ (List.mem_append_right _ (List.mem_append_right _ (List.mem_append_right _ (List.mem_append_right _ (List.mem_append_left _ h)))))) : w ∈ tables_1_3)))))
theorem ck30_in : ∀ w ∈ ck30, goodWord w = true → w ∈ TBL := fun w h => tb_t (show w ∈ tables_1 from (List.mem_append_right _ (List.mem_append_right _ (List.mem_append_left _ (tq3 ▸ (List.mem_append_right _ (List.mem_append_right _ (List.mem_append_right _ (List.mem_append_right _ (List.mem_append_right _ (List.mem_append_right _ (List.mem_append_left _ h))))))) : w ∈ tables_1_3)))))
theorem ck31_in : ∀ w ∈ ck31, goodWord w = true → w ∈ TBL := fun w h => tb_t (show w ∈ tables_1 from (List.mem_append_right _ (List.mem_append_right _ (List.mem_append_left _ (tq3 ▸ (List.mem_append_right _ (List.mem_append_right _ (List.mem_append_right _ (List.mem_append_right _ (List.mem_append_right _ (List.mem_append_right _ (List.mem_append_right _ (List.mem_append_left _ h)))))))) : w ∈ tables_1_3)))))
theorem ck32_in : ∀ w ∈ ck32, goodWord w = true → w ∈ TBL := fun w h => tb_t (show w ∈ tables_1 from (List.mem_append_right _ (List.mem_append_right _ (List.mem_append_left _ (tq3 ▸ (List.mem_append_right _ (List.mem_append_right _ (List.mem_append_right _ (List.mem_append_right _ (List.mem_append_right _ (List.mem_append_right _ (List.mem_append_right _ (List.mem_append_right _ (List.mem_append_left _ h))))))))) : w ∈ tables_1_3)))))
theorem ck33_in : ∀ w ∈ ck33, goodWord w = true → w ∈ TBL := fun w h => tb_t (show w ∈ tables_1 from (List.mem_append_right _ (List.mem_append_right _ (List.mem_append_left _ (tq3 ▸ (List.mem_append_right _ (List.mem_append_right _ (List.mem_append_right _ (List.mem_append_right _ (List.mem_append_right _ (List.mem_append_right _ (List.mem_append_right _ (List.mem_append_right _ (List.mem_append_right _ (List.mem_append_left _ h)))))))))) : w ∈ tables_1_3)))))
theorem ck34_in : ∀ w ∈ ck34, goodWord w = true → w ∈ TBL := fun w h => tb_t (show w ∈ tables_1 from (List.mem_append_right _ (List.mem_append_right _ (List.mem_append_left _ (tq3 ▸ (List.mem_append_right _ (List.mem_append_right _ (List.mem_append_right _ (List.mem_append_right _ (List.mem_append_right _ (List.mem_append_right _ (List.mem_append_right _ (List.mem_append_right _ (List.mem_append_right _ (List.mem_append_right _ (List.mem_append_left _ h))))))))))) : w ∈ tables_1_3)))))
theorem ck35_in : ∀ w ∈ ck35, goodWord w = true → w ∈ TBL := fun w h => tb_t (show w ∈ tables_1 from (List.mem_append_right _ (List.mem_append_right _ (List.mem_append_left _ (tq3 ▸ (List.mem_append_right _ (List.mem_append_right _ (List.mem_append_right _ (List.mem_append_right _ (List.mem_append_right _ (List.mem_append_right _ (List.mem_append_right _ (List.mem_append_right _ (List.mem_append_right _ (List.mem_append_right _ (List.mem_append_right _ h))))))))))) : w ∈ tables_1_3)))))
def ck36 : List Cond := [Cond.laysFinal RX9 "TriggerStagesModel" "waitTrigger" "[I", Cond.soleField RX9 "waitTrigger", Cond.laysFinal RX9 "TriggerStagesModel" "waitTable" "[I", Cond.soleField RX9 "waitTable", Cond.laysFinal RX9 "TriggerStagesModel" "waitKey" "[I", Cond.soleField RX9 "waitKey", Cond.laysFinal RX9 "TriggerStagesModel" "waitDepth" "[I", Cond.soleField RX9 "waitDepth", Cond.laysFinal RX9 "TriggerStagesModel" "waitChain" "[I", Cond.soleField RX9 "waitChain", Cond.laysFinal RX9 "TriggerStagesModel" "fresh" "[I", Cond.soleField RX9 "fresh", Cond.laysFinal RX9 "TriggerStagesModel" "sets" "[I", Cond.soleField RX9 "sets", Cond.laysFinal RX9 "TriggerStagesModel" "far" "[I", Cond.soleField RX9 "far", Cond.lays RX9 "TriggerStagesModel" "at" "I", Cond.soleField RX9 "at", Cond.lays RX9 "TriggerStagesModel" "isWell" "Z", Cond.soleField RX9 "isWell", Cond.laysFinal RX9 "TriggerStagesModel" "told" "[I", Cond.soleField RX9 "told", Cond.lays RX9 "TriggerStagesModel" "toldMany" "I", Cond.soleField RX9 "toldMany", Cond.superclass RX9 "java/lang/Object"]
def ck37 : List Cond := [Cond.arrayClass FieldType.boolean, Cond.methodLink RL 17 yX9_set, Cond.instanceMethod yX9_set, Cond.selects RX9 yX9_set yX9_set, Cond.code yX9_set cX9_set 4 (some .int), Cond.methodLink RX9 93 yX9_in, Cond.static yX9_in, Cond.code yX9_in cX9_in 3 (some .boolean), Cond.methodLink RX9 205 yX9_records, Cond.privateMethod yX9_records, Cond.instanceMethod yX9_records, Cond.code yX9_records cX9_records 2 none, Cond.methodLink RL 22 yX9_trigger, Cond.instanceMethod yX9_trigger, Cond.selects RX9 yX9_trigger yX9_trigger, Cond.code yX9_trigger cX9_trigger 6 (some .int), Cond.methodLink RX9 201 yX9_isTable, Cond.static yX9_isTable, Cond.code yX9_isTable cX9_isTable 1 (some .boolean), Cond.methodLink RL 27 yX9_deed, Cond.instanceMethod yX9_deed, Cond.selects RX9 yX9_deed yX9_deed, Cond.code yX9_deed cX9_deed 8 (some .int), Cond.methodLink RX9 208 yX9_isTrigger, Cond.privateMethod yX9_isTrigger]
def ck38 : List Cond := [Cond.instanceMethod yX9_isTrigger, Cond.code yX9_isTrigger cX9_isTrigger 2 (some .boolean), Cond.methodLink RX9 146 yX9_of, Cond.privateMethod yX9_of, Cond.instanceMethod yX9_of, Cond.code yX9_of cX9_of 3 (some .int), Cond.methodLink RL 32 yX9_dropTrigger, Cond.instanceMethod yX9_dropTrigger, Cond.selects RX9 yX9_dropTrigger yX9_dropTrigger, Cond.code yX9_dropTrigger cX9_dropTrigger 4 (some .int), Cond.methodLink RL 36 yX9_state, Cond.instanceMethod yX9_state, Cond.selects RX9 yX9_state yX9_state, Cond.code yX9_state cX9_state 6 (some .int), Cond.methodLink RX9 211 yX9_refuses, Cond.static yX9_refuses, Cond.code yX9_refuses cX9_refuses 4 (some .int), Cond.methodLink RX9 215 yX9_tries, Cond.privateMethod yX9_tries, Cond.instanceMethod yX9_tries, Cond.code yX9_tries cX9_tries 5 (some .boolean), Cond.methodLink RX9 189 yX9_putAside, Cond.privateMethod yX9_putAside, Cond.instanceMethod yX9_putAside, Cond.code yX9_putAside cX9_putAside 2 none]
def ck39 : List Cond := [Cond.methodLink RX9 192 yX9_carries, Cond.privateMethod yX9_carries, Cond.instanceMethod yX9_carries, Cond.code yX9_carries cX9_carries 8 none, Cond.methodLink RX9 149 yX9_begins, Cond.privateMethod yX9_begins, Cond.instanceMethod yX9_begins, Cond.code yX9_begins cX9_begins 6 none, Cond.methodLink RX9 126 yX9_fails, Cond.privateMethod yX9_fails, Cond.instanceMethod yX9_fails, Cond.code yX9_fails cX9_fails 6 none, Cond.methodLink RX9 136 yX9_isPossible, Cond.privateMethod yX9_isPossible, Cond.instanceMethod yX9_isPossible, Cond.code yX9_isPossible cX9_isPossible 6 (some .boolean), Cond.methodLink RX9 111 yX9_numberOf, Cond.privateMethod yX9_numberOf, Cond.instanceMethod yX9_numberOf, Cond.code yX9_numberOf cX9_numberOf 4 (some .int), Cond.methodLink RX9 108 yX9_placeOf, Cond.privateMethod yX9_placeOf, Cond.instanceMethod yX9_placeOf, Cond.code yX9_placeOf cX9_placeOf 4 (some .int), Cond.methodLink RX9 100 yX9_rows]
def ck40 : List Cond := [Cond.privateMethod yX9_rows, Cond.instanceMethod yX9_rows, Cond.code yX9_rows cX9_rows 2 (some .int), Cond.methodLink RX9 104 yX9_rowAt, Cond.static yX9_rowAt, Cond.code yX9_rowAt cX9_rowAt 2 (some .int), Cond.methodLink RX9 186 yX9_clears, Cond.privateMethod yX9_clears, Cond.instanceMethod yX9_clears, Cond.code yX9_clears cX9_clears 1 none, Cond.methodLink RX9 183 yX9_goesOn, Cond.privateMethod yX9_goesOn, Cond.instanceMethod yX9_goesOn, Cond.code yX9_goesOn cX9_goesOn 5 none, Cond.methodLink RX9 167 yX9_isSetOff, Cond.privateMethod yX9_isSetOff, Cond.instanceMethod yX9_isSetOff, Cond.code yX9_isSetOff cX9_isSetOff 5 (some .boolean), Cond.methodLink RX9 170 yX9_waitsFor, Cond.privateMethod yX9_waitsFor, Cond.instanceMethod yX9_waitsFor, Cond.code yX9_waitsFor cX9_waitsFor 4 none, Cond.methodLink RX9 173 yX9_does, Cond.privateMethod yX9_does, Cond.instanceMethod yX9_does]
def ck41 : List Cond := [Cond.code yX9_does cX9_does 5 none, Cond.methodLink RX9 176 yX9_isDone, Cond.privateMethod yX9_isDone, Cond.instanceMethod yX9_isDone, Cond.code yX9_isDone cX9_isDone 5 none, Cond.methodLink RX9 153 yX9_lays, Cond.privateMethod yX9_lays, Cond.instanceMethod yX9_lays, Cond.code yX9_lays cX9_lays 5 none, Cond.methodLink RX9 157 yX9_drops, Cond.privateMethod yX9_drops, Cond.instanceMethod yX9_drops, Cond.code yX9_drops cX9_drops 5 none, Cond.methodLink RX9 195 yX9_takeBack, Cond.privateMethod yX9_takeBack, Cond.instanceMethod yX9_takeBack, Cond.code yX9_takeBack cX9_takeBack 2 none, Cond.methodLink RX9 218 yX9_states, Cond.privateMethod yX9_states, Cond.instanceMethod yX9_states, Cond.code yX9_states cX9_states 5 (some .boolean), Cond.methodLink RX9 198 yX9_writesJournal, Cond.privateMethod yX9_writesJournal, Cond.instanceMethod yX9_writesJournal, Cond.code yX9_writesJournal cX9_writesJournal 2 none]
def ck42 : List Cond := [Cond.methodLink RL 40 yX9_tried, Cond.instanceMethod yX9_tried, Cond.selects RX9 yX9_tried yX9_tried, Cond.code yX9_tried cX9_tried 8 (some .int), Cond.methodLink RL 45 yX9_row, Cond.instanceMethod yX9_row, Cond.selects RX9 yX9_row yX9_row, Cond.code yX9_row cX9_row 4 (some .int), Cond.methodLink RL 49 yX9_value, Cond.instanceMethod yX9_value, Cond.selects RX9 yX9_value yX9_value, Cond.code yX9_value cX9_value 3 (some .int), Cond.methodLink RL 53 yX9_ofTrigger, Cond.instanceMethod yX9_ofTrigger, Cond.selects RX9 yX9_ofTrigger yX9_ofTrigger, Cond.code yX9_ofTrigger cX9_ofTrigger 3 (some .int), Cond.methodLink RX9 221 yX9_laysSets, Cond.privateMethod yX9_laysSets, Cond.instanceMethod yX9_laysSets, Cond.code yX9_laysSets cX9_laysSets 4 none, Cond.methodLink RL 57 yX9_journal, Cond.instanceMethod yX9_journal, Cond.selects RX9 yX9_journal yX9_journal, Cond.code yX9_journal cX9_journal 3 (some .int), Cond.methodLink RL 61 yX9_count]
def ck43 : List Cond := [Cond.instanceMethod yX9_count, Cond.selects RX9 yX9_count yX9_count, Cond.code yX9_count cX9_count 2 (some .int), Cond.methodLink RX9 224 yX9_sumOfNumbers, Cond.privateMethod yX9_sumOfNumbers, Cond.instanceMethod yX9_sumOfNumbers, Cond.code yX9_sumOfNumbers cX9_sumOfNumbers 4 (some .int), Cond.methodLink RX9 228 yX9_selves, Cond.privateMethod yX9_selves, Cond.instanceMethod yX9_selves, Cond.code yX9_selves cX9_selves 3 (some .int), Cond.methodLink RL 65 yX9_culprits, Cond.instanceMethod yX9_culprits, Cond.selects RX9 yX9_culprits yX9_culprits, Cond.code yX9_culprits cX9_culprits 8 (some .int), Cond.methodLink RL 69 yX9_leastDepth, Cond.instanceMethod yX9_leastDepth, Cond.selects RX9 yX9_leastDepth yX9_leastDepth, Cond.code yX9_leastDepth cX9_leastDepth 9 (some .int), Cond.methodLink RL 76 yX9_put, Cond.instanceMethod yX9_put, Cond.selects RX9 yX9_put yX9_put, Cond.code yX9_put cX9_put 8 (some .int), Cond.constantLong RX9 234 255, Cond.methodLink RL 81 yX9_wipe]
def ck44 : List Cond := [Cond.instanceMethod yX9_wipe, Cond.selects RX9 yX9_wipe yX9_wipe, Cond.code yX9_wipe cX9_wipe 2 (some .int), Cond.methodLink RL 85 yX9_fault, Cond.instanceMethod yX9_fault, Cond.selects RX9 yX9_fault yX9_fault, Cond.code yX9_fault cX9_fault 1 (some .int), Cond.methodLink RX9 258 yX9_reads, Cond.privateMethod yX9_reads, Cond.instanceMethod yX9_reads, Cond.code yX9_reads cX9_reads 1 (some .int), Cond.methodLink RX9 255 yX9_readsStatement, Cond.privateMethod yX9_readsStatement, Cond.instanceMethod yX9_readsStatement, Cond.code yX9_readsStatement cX9_readsStatement 6 none, Cond.methodLink RX9 243 yX9_sign, Cond.privateMethod yX9_sign, Cond.instanceMethod yX9_sign, Cond.code yX9_sign cX9_sign 1 (some .int), Cond.methodLink RX9 246 yX9_takes, Cond.privateMethod yX9_takes, Cond.instanceMethod yX9_takes, Cond.code yX9_takes cX9_takes 4 (some .int), Cond.methodLink RX9 249 yX9_number, Cond.privateMethod yX9_number]
def ck45 : List Cond := [Cond.instanceMethod yX9_number, Cond.code yX9_number cX9_number 4 (some .int), Cond.methodLink RL 89 yX9_carryOut, Cond.instanceMethod yX9_carryOut, Cond.selects RX9 yX9_carryOut yX9_carryOut, Cond.code yX9_carryOut cX9_carryOut 2 (some .int), Cond.methodLink RL 93 yX9_undo, Cond.instanceMethod yX9_undo, Cond.selects RX9 yX9_undo yX9_undo, Cond.code yX9_undo cX9_undo 2 (some .int), Cond.methodLink RL 97 yX9_save, Cond.instanceMethod yX9_save, Cond.selects RX9 yX9_save yX9_save, Cond.code yX9_save cX9_save 3 (some .int), Cond.methodLink RX9 261 yX9_allRows]
set_option maxRecDepth 100000 in
theorem tq4 : tables_1_4 = ck36 ++ (ck37 ++ (ck38 ++ (ck39 ++ (ck40 ++ (ck41 ++ (ck42 ++ (ck43 ++ (ck44 ++ (ck45))))))))) := rfl
theorem ck36_in : ∀ w ∈ ck36, goodWord w = true → w ∈ TBL := fun w h => tb_t (show w ∈ tables_1 from (List.mem_append_right _ (List.mem_append_right _ (List.mem_append_right _ (List.mem_append_left _ (tq4 ▸ (List.mem_append_left _ h) : w ∈ tables_1_4))))))
theorem ck37_in : ∀ w ∈ ck37, goodWord w = true → w ∈ TBL := fun w h => tb_t (show w ∈ tables_1 from (List.mem_append_right _ (List.mem_append_right _ (List.mem_append_right _ (List.mem_append_left _ (tq4 ▸ (List.mem_append_right _ (List.mem_append_left _ h)) : w ∈ tables_1_4))))))
theorem ck38_in : ∀ w ∈ ck38, goodWord w = true → w ∈ TBL := fun w h => tb_t (show w ∈ tables_1 from (List.mem_append_right _ (List.mem_append_right _ (List.mem_append_right _ (List.mem_append_left _ (tq4 ▸ (List.mem_append_right _ (List.mem_append_right _ (List.mem_append_left _ h))) : w ∈ tables_1_4))))))
theorem ck39_in : ∀ w ∈ ck39, goodWord w = true → w ∈ TBL := fun w h => tb_t (show w ∈ tables_1 from (List.mem_append_right _ (List.mem_append_right _ (List.mem_append_right _ (List.mem_append_left _ (tq4 ▸ (List.mem_append_right _ (List.mem_append_right _ (List.mem_append_right _ (List.mem_append_left _ h)))) : w ∈ tables_1_4))))))
theorem ck40_in : ∀ w ∈ ck40, goodWord w = true → w ∈ TBL := fun w h => tb_t (show w ∈ tables_1 from (List.mem_append_right _ (List.mem_append_right _ (List.mem_append_right _ (List.mem_append_left _ (tq4 ▸ (List.mem_append_right _ (List.mem_append_right _ (List.mem_append_right _ (List.mem_append_right _ (List.mem_append_left _ h))))) : w ∈ tables_1_4))))))
theorem ck41_in : ∀ w ∈ ck41, goodWord w = true → w ∈ TBL := fun w h => tb_t (show w ∈ tables_1 from (List.mem_append_right _ (List.mem_append_right _ (List.mem_append_right _ (List.mem_append_left _ (tq4 ▸ (List.mem_append_right _ (List.mem_append_right _ (List.mem_append_right _ (List.mem_append_right _ (List.mem_append_right _ (List.mem_append_left _ h)))))) : w ∈ tables_1_4))))))
theorem ck42_in : ∀ w ∈ ck42, goodWord w = true → w ∈ TBL := fun w h => tb_t (show w ∈ tables_1 from (List.mem_append_right _ (List.mem_append_right _ (List.mem_append_right _ (List.mem_append_left _ (tq4 ▸ (List.mem_append_right _ (List.mem_append_right _ (List.mem_append_right _ (List.mem_append_right _ (List.mem_append_right _ (List.mem_append_right _ (List.mem_append_left _ h))))))) : w ∈ tables_1_4))))))
theorem ck43_in : ∀ w ∈ ck43, goodWord w = true → w ∈ TBL := fun w h => tb_t (show w ∈ tables_1 from (List.mem_append_right _ (List.mem_append_right _ (List.mem_append_right _ (List.mem_append_left _ (tq4 ▸ (List.mem_append_right _ (List.mem_append_right _ (List.mem_append_right _ (List.mem_append_right _ (List.mem_append_right _ (List.mem_append_right _ (List.mem_append_right _ (List.mem_append_left _ h)))))))) : w ∈ tables_1_4))))))
theorem ck44_in : ∀ w ∈ ck44, goodWord w = true → w ∈ TBL := fun w h => tb_t (show w ∈ tables_1 from (List.mem_append_right _ (List.mem_append_right _ (List.mem_append_right _ (List.mem_append_left _ (tq4 ▸ (List.mem_append_right _ (List.mem_append_right _ (List.mem_append_right _ (List.mem_append_right _ (List.mem_append_right _ (List.mem_append_right _ (List.mem_append_right _ (List.mem_append_right _ (List.mem_append_left _ h))))))))) : w ∈ tables_1_4))))))
theorem ck45_in : ∀ w ∈ ck45, goodWord w = true → w ∈ TBL := fun w h => tb_t (show w ∈ tables_1 from (List.mem_append_right _ (List.mem_append_right _ (List.mem_append_right _ (List.mem_append_left _ (tq4 ▸ (List.mem_append_right _ (List.mem_append_right _ (List.mem_append_right _ (List.mem_append_right _ (List.mem_append_right _ (List.mem_append_right _ (List.mem_append_right _ (List.mem_append_right _ (List.mem_append_right _ h))))))))) : w ∈ tables_1_4))))))
def ck46 : List Cond := [Cond.privateMethod yX9_allRows, Cond.instanceMethod yX9_allRows, Cond.code yX9_allRows cX9_allRows 3 (some .int), Cond.methodLink RL 101 yX9_restore, Cond.instanceMethod yX9_restore, Cond.selects RX9 yX9_restore yX9_restore, Cond.code yX9_restore cX9_restore 3 (some .int), Cond.constantLong RL 70 4294967295]
set_option maxRecDepth 100000 in
theorem tq5 : tables_1_5 = ck46 := rfl
theorem ck46_in : ∀ w ∈ ck46, goodWord w = true → w ∈ TBL := fun w h => tb_t (show w ∈ tables_1 from (List.mem_append_right _ (List.mem_append_right _ (List.mem_append_right _ (List.mem_append_right _ (tq5 ▸ h : w ∈ tables_1_5))))))
def ckp0 : List Cond := [Cond.selects RX0 yX0_carry yX0_carry, Cond.selects RX0 yX0_begin yX0_begin, Cond.selects RX0 yX0_isLeftOut yX0_isLeftOut, Cond.selects RX0 yX0_doStage yX0_doStage, Cond.selects RX0 yX0_isSetOff yX0_isSetOff, Cond.selects RX0 yX0_doDeed yX0_doDeed, Cond.selects RX6 yX6_insert yX6_insert, Cond.selects RX6 yX6_renumber yX6_renumber, Cond.selects RX6 yX6_remove yX6_remove, Cond.selects RX0 yX0_noteDone yX0_noteDone, Cond.selects RX0 yX0_queueLastStage yX0_queueLastStage, Cond.selects RX8 yX8_takeOver yX8_takeOver, Cond.selects RX7 yX7_followersOfAll yX7_followersOfAll, Cond.selects RX3 yX3_readStatement yX3_readStatement, Cond.selects RX3 yX3_readKind yX3_readKind, Cond.selects RX3 yX3_accepts yX3_accepts]
def ckp1 : List Cond := [Cond.selects RX3 yX3_next yX3_next, Cond.selects RX3 yX3_readNumber yX3_readNumber, Cond.selects RX3 yX3_digit yX3_digit, Cond.selects RX3 yX3_keep yX3_keep, Cond.selects RX9 yX9_records yX9_records, Cond.selects RX9 yX9_isTrigger yX9_isTrigger, Cond.selects RX9 yX9_of yX9_of, Cond.selects RX9 yX9_tries yX9_tries, Cond.selects RX9 yX9_putAside yX9_putAside, Cond.selects RX9 yX9_carries yX9_carries, Cond.selects RX9 yX9_begins yX9_begins, Cond.selects RX9 yX9_fails yX9_fails, Cond.selects RX9 yX9_isPossible yX9_isPossible, Cond.selects RX9 yX9_numberOf yX9_numberOf, Cond.selects RX9 yX9_placeOf yX9_placeOf, Cond.selects RX9 yX9_rows yX9_rows]
def ckp2 : List Cond := [Cond.selects RX9 yX9_clears yX9_clears, Cond.selects RX9 yX9_goesOn yX9_goesOn, Cond.selects RX9 yX9_isSetOff yX9_isSetOff, Cond.selects RX9 yX9_waitsFor yX9_waitsFor, Cond.selects RX9 yX9_does yX9_does, Cond.selects RX9 yX9_isDone yX9_isDone, Cond.selects RX9 yX9_lays yX9_lays, Cond.selects RX9 yX9_drops yX9_drops, Cond.selects RX9 yX9_takeBack yX9_takeBack, Cond.selects RX9 yX9_states yX9_states, Cond.selects RX9 yX9_writesJournal yX9_writesJournal, Cond.selects RX9 yX9_laysSets yX9_laysSets, Cond.selects RX9 yX9_sumOfNumbers yX9_sumOfNumbers, Cond.selects RX9 yX9_selves yX9_selves, Cond.selects RX9 yX9_reads yX9_reads, Cond.selects RX9 yX9_readsStatement yX9_readsStatement]
def ckp3 : List Cond := [Cond.selects RX9 yX9_sign yX9_sign, Cond.selects RX9 yX9_takes yX9_takes, Cond.selects RX9 yX9_number yX9_number, Cond.selects RX9 yX9_allRows yX9_allRows]
set_option maxRecDepth 100000 in
theorem tqp : k2_sels lw_privs = ckp0 ++ (ckp1 ++ (ckp2 ++ (ckp3))) := rfl
theorem ckp0_in : ∀ w ∈ ckp0, goodWord w = true → w ∈ TBL := fun w h => tb_p (tqp ▸ (List.mem_append_left _ h) : w ∈ k2_sels lw_privs)
theorem ckp1_in : ∀ w ∈ ckp1, goodWord w = true → w ∈ TBL := fun w h => tb_p (tqp ▸ (List.mem_append_right _ (List.mem_append_left _ h)) : w ∈ k2_sels lw_privs)
theorem ckp2_in : ∀ w ∈ ckp2, goodWord w = true → w ∈ TBL := fun w h => tb_p (tqp ▸ (List.mem_append_right _ (List.mem_append_right _ (List.mem_append_left _ h))) : w ∈ k2_sels lw_privs)
theorem ckp3_in : ∀ w ∈ ckp3, goodWord w = true → w ∈ TBL := fun w h => tb_p (tqp ▸ (List.mem_append_right _ (List.mem_append_right _ (List.mem_append_right _ h))) : w ∈ k2_sels lw_privs)
theorem wi_X0 : Cond.initialized RX0 ∈ TBL := ck0_in _ (List.mem_of_getElem? (i := 7) rfl) rfl
theorem wn_X0 : Cond.instantiable RX0 11 ∈ TBL := ck4_in _ (List.mem_of_getElem? (i := 4) rfl) rfl
theorem wf_X0 : ∀ w ∈ wsX00, w ∈ TBL := List.forall_mem_cons.mpr ⟨ck6_in _ (List.mem_of_getElem? (i := 5) rfl) rfl, List.forall_mem_cons.mpr ⟨ck6_in _ (List.mem_of_getElem? (i := 7) rfl) rfl, List.forall_mem_cons.mpr ⟨ck6_in _ (List.mem_of_getElem? (i := 9) rfl) rfl, List.forall_mem_cons.mpr ⟨ck6_in _ (List.mem_of_getElem? (i := 11) rfl) rfl, List.forall_mem_cons.mpr ⟨ck6_in _ (List.mem_of_getElem? (i := 13) rfl) rfl, List.forall_mem_cons.mpr ⟨ck6_in _ (List.mem_of_getElem? (i := 15) rfl) rfl, List.forall_mem_cons.mpr ⟨ck6_in _ (List.mem_of_getElem? (i := 17) rfl) rfl, List.forall_mem_cons.mpr ⟨ck6_in _ (List.mem_of_getElem? (i := 19) rfl) rfl, List.forall_mem_cons.mpr ⟨ck6_in _ (List.mem_of_getElem? (i := 21) rfl) rfl, List.forall_mem_cons.mpr ⟨ck6_in _ (List.mem_of_getElem? (i := 23) rfl) rfl, List.forall_mem_cons.mpr ⟨ck7_in _ (List.mem_of_getElem? (i := 0) rfl) rfl, fun w h => absurd h List.not_mem_nil⟩⟩⟩⟩⟩⟩⟩⟩⟩⟩⟩
theorem wi_X1 : Cond.initialized RX1 ∈ TBL := ck0_in _ (List.mem_of_getElem? (i := 8) rfl) rfl
theorem wn_X1 : Cond.instantiable RX1 5 ∈ TBL := ck4_in _ (List.mem_of_getElem? (i := 14) rfl) rfl
theorem wf_X1 : ∀ w ∈ wsX10, w ∈ TBL := List.forall_mem_cons.mpr ⟨ck5_in _ (List.mem_of_getElem? (i := 3) rfl) rfl, List.forall_mem_cons.mpr ⟨ck5_in _ (List.mem_of_getElem? (i := 5) rfl) rfl, List.forall_mem_cons.mpr ⟨ck5_in _ (List.mem_of_getElem? (i := 7) rfl) rfl, List.forall_mem_cons.mpr ⟨ck5_in _ (List.mem_of_getElem? (i := 9) rfl) rfl, List.forall_mem_cons.mpr ⟨ck5_in _ (List.mem_of_getElem? (i := 11) rfl) rfl, fun w h => absurd h List.not_mem_nil⟩⟩⟩⟩⟩
theorem wi_X2 : Cond.initialized RX2 ∈ TBL := ck0_in _ (List.mem_of_getElem? (i := 10) rfl) rfl
theorem wn_X2 : Cond.instantiable RX2 3 ∈ TBL := ck8_in _ (List.mem_of_getElem? (i := 1) rfl) rfl
theorem wf_X2 : ∀ w ∈ wsX20, w ∈ TBL := List.forall_mem_cons.mpr ⟨ck8_in _ (List.mem_of_getElem? (i := 11) rfl) rfl, List.forall_mem_cons.mpr ⟨ck8_in _ (List.mem_of_getElem? (i := 13) rfl) rfl, List.forall_mem_cons.mpr ⟨ck8_in _ (List.mem_of_getElem? (i := 15) rfl) rfl, fun w h => absurd h List.not_mem_nil⟩⟩⟩
theorem wi_X3 : Cond.initialized RX3 ∈ TBL := ck0_in _ (List.mem_of_getElem? (i := 9) rfl) rfl
theorem wn_X3 : Cond.instantiable RX3 4 ∈ TBL := ck7_in _ (List.mem_of_getElem? (i := 4) rfl) rfl
theorem wf_X3 : ∀ w ∈ wsX30, w ∈ TBL := List.forall_mem_cons.mpr ⟨ck7_in _ (List.mem_of_getElem? (i := 15) rfl) rfl, List.forall_mem_cons.mpr ⟨ck7_in _ (List.mem_of_getElem? (i := 17) rfl) rfl, List.forall_mem_cons.mpr ⟨ck7_in _ (List.mem_of_getElem? (i := 19) rfl) rfl, List.forall_mem_cons.mpr ⟨ck7_in _ (List.mem_of_getElem? (i := 21) rfl) rfl, fun w h => absurd h List.not_mem_nil⟩⟩⟩⟩
theorem wi_X4 : Cond.initialized RX4 ∈ TBL := ck0_in _ (List.mem_of_getElem? (i := 5) rfl) rfl
theorem wn_X4 : Cond.instantiable RX4 4 ∈ TBL := ck2_in _ (List.mem_of_getElem? (i := 1) rfl) rfl
theorem wf_X4 : ∀ w ∈ wsX40, w ∈ TBL := List.forall_mem_cons.mpr ⟨ck2_in _ (List.mem_of_getElem? (i := 13) rfl) rfl, List.forall_mem_cons.mpr ⟨ck2_in _ (List.mem_of_getElem? (i := 15) rfl) rfl, List.forall_mem_cons.mpr ⟨ck2_in _ (List.mem_of_getElem? (i := 17) rfl) rfl, List.forall_mem_cons.mpr ⟨ck2_in _ (List.mem_of_getElem? (i := 19) rfl) rfl, fun w h => absurd h List.not_mem_nil⟩⟩⟩⟩
theorem wi_X5 : Cond.initialized RX5 ∈ TBL := ck0_in _ (List.mem_of_getElem? (i := 2) rfl) rfl
theorem wn_X5 : Cond.instantiable RX5 5 ∈ TBL := ck0_in _ (List.mem_of_getElem? (i := 22) rfl) rfl
theorem wf_X5 : ∀ w ∈ wsX50, w ∈ TBL := List.forall_mem_cons.mpr ⟨ck3_in _ (List.mem_of_getElem? (i := 17) rfl) rfl, List.forall_mem_cons.mpr ⟨ck3_in _ (List.mem_of_getElem? (i := 19) rfl) rfl, List.forall_mem_cons.mpr ⟨ck3_in _ (List.mem_of_getElem? (i := 21) rfl) rfl, List.forall_mem_cons.mpr ⟨ck3_in _ (List.mem_of_getElem? (i := 23) rfl) rfl, List.forall_mem_cons.mpr ⟨ck4_in _ (List.mem_of_getElem? (i := 0) rfl) rfl, fun w h => absurd h List.not_mem_nil⟩⟩⟩⟩⟩
theorem wi_X6 : Cond.initialized RX6 ∈ TBL := ck0_in _ (List.mem_of_getElem? (i := 3) rfl) rfl
theorem wn_X6 : Cond.instantiable RX6 3 ∈ TBL := ck1_in _ (List.mem_of_getElem? (i := 3) rfl) rfl
theorem wf_X6 : ∀ w ∈ wsX60, w ∈ TBL := List.forall_mem_cons.mpr ⟨ck1_in _ (List.mem_of_getElem? (i := 11) rfl) rfl, List.forall_mem_cons.mpr ⟨ck1_in _ (List.mem_of_getElem? (i := 13) rfl) rfl, List.forall_mem_cons.mpr ⟨ck1_in _ (List.mem_of_getElem? (i := 15) rfl) rfl, fun w h => absurd h List.not_mem_nil⟩⟩⟩
theorem wi_X7 : Cond.initialized RX7 ∈ TBL := ck0_in _ (List.mem_of_getElem? (i := 4) rfl) rfl
theorem wn_X7 : Cond.instantiable RX7 1 ∈ TBL := ck1_in _ (List.mem_of_getElem? (i := 20) rfl) rfl
theorem wf_X7 : ∀ w ∈ wsX70, w ∈ TBL := List.forall_mem_cons.mpr ⟨ck2_in _ (List.mem_of_getElem? (i := 24) rfl) rfl, fun w h => absurd h List.not_mem_nil⟩
theorem wi_X8 : Cond.initialized RX8 ∈ TBL := ck0_in _ (List.mem_of_getElem? (i := 1) rfl) rfl
theorem wn_X8 : Cond.instantiable RX8 5 ∈ TBL := ck0_in _ (List.mem_of_getElem? (i := 14) rfl) rfl
theorem wf_X8 : ∀ w ∈ wsX80, w ∈ TBL := List.forall_mem_cons.mpr ⟨ck8_in _ (List.mem_of_getElem? (i := 23) rfl) rfl, List.forall_mem_cons.mpr ⟨ck9_in _ (List.mem_of_getElem? (i := 0) rfl) rfl, List.forall_mem_cons.mpr ⟨ck9_in _ (List.mem_of_getElem? (i := 2) rfl) rfl, List.forall_mem_cons.mpr ⟨ck9_in _ (List.mem_of_getElem? (i := 4) rfl) rfl, List.forall_mem_cons.mpr ⟨ck9_in _ (List.mem_of_getElem? (i := 6) rfl) rfl, fun w h => absurd h List.not_mem_nil⟩⟩⟩⟩⟩
theorem wi_X9 : Cond.initialized RX9 ∈ TBL := ck0_in _ (List.mem_of_getElem? (i := 11) rfl) rfl
theorem wn_X9 : Cond.instantiable RX9 43 ∈ TBL := ck31_in _ (List.mem_of_getElem? (i := 0) rfl) rfl
theorem wf_X9 : ∀ w ∈ wsX90, w ∈ TBL := List.forall_mem_cons.mpr ⟨ck32_in _ (List.mem_of_getElem? (i := 23) rfl) rfl, List.forall_mem_cons.mpr ⟨ck33_in _ (List.mem_of_getElem? (i := 0) rfl) rfl, List.forall_mem_cons.mpr ⟨ck33_in _ (List.mem_of_getElem? (i := 2) rfl) rfl, List.forall_mem_cons.mpr ⟨ck33_in _ (List.mem_of_getElem? (i := 4) rfl) rfl, List.forall_mem_cons.mpr ⟨ck33_in _ (List.mem_of_getElem? (i := 6) rfl) rfl, List.forall_mem_cons.mpr ⟨ck33_in _ (List.mem_of_getElem? (i := 8) rfl) rfl, List.forall_mem_cons.mpr ⟨ck33_in _ (List.mem_of_getElem? (i := 10) rfl) rfl, List.forall_mem_cons.mpr ⟨ck33_in _ (List.mem_of_getElem? (i := 12) rfl) rfl, List.forall_mem_cons.mpr ⟨ck33_in _ (List.mem_of_getElem? (i := 14) rfl) rfl, List.forall_mem_cons.mpr ⟨ck33_in _ (List.mem_of_getElem? (i := 16) rfl) rfl, List.forall_mem_cons.mpr ⟨ck33_in _ (List.mem_of_getElem? (i := 18) rfl) rfl, List.forall_mem_cons.mpr ⟨ck33_in _ (List.mem_of_getElem? (i := 20) rfl) rfl, List.forall_mem_cons.mpr ⟨ck33_in _ (List.mem_of_getElem? (i := 22) rfl) rfl, List.forall_mem_cons.mpr ⟨ck33_in _ (List.mem_of_getElem? (i := 24) rfl) rfl, List.forall_mem_cons.mpr ⟨ck34_in _ (List.mem_of_getElem? (i := 1) rfl) rfl, List.forall_mem_cons.mpr ⟨ck34_in _ (List.mem_of_getElem? (i := 3) rfl) rfl, List.forall_mem_cons.mpr ⟨ck34_in _ (List.mem_of_getElem? (i := 5) rfl) rfl, List.forall_mem_cons.mpr ⟨ck34_in _ (List.mem_of_getElem? (i := 7) rfl) rfl, List.forall_mem_cons.mpr ⟨ck34_in _ (List.mem_of_getElem? (i := 9) rfl) rfl, List.forall_mem_cons.mpr ⟨ck34_in _ (List.mem_of_getElem? (i := 11) rfl) rfl, List.forall_mem_cons.mpr ⟨ck34_in _ (List.mem_of_getElem? (i := 13) rfl) rfl, List.forall_mem_cons.mpr ⟨ck34_in _ (List.mem_of_getElem? (i := 15) rfl) rfl, List.forall_mem_cons.mpr ⟨ck34_in _ (List.mem_of_getElem? (i := 17) rfl) rfl, List.forall_mem_cons.mpr ⟨ck34_in _ (List.mem_of_getElem? (i := 19) rfl) rfl, List.forall_mem_cons.mpr ⟨ck34_in _ (List.mem_of_getElem? (i := 21) rfl) rfl, List.forall_mem_cons.mpr ⟨ck34_in _ (List.mem_of_getElem? (i := 23) rfl) rfl, List.forall_mem_cons.mpr ⟨ck35_in _ (List.mem_of_getElem? (i := 0) rfl) rfl, List.forall_mem_cons.mpr ⟨ck35_in _ (List.mem_of_getElem? (i := 2) rfl) rfl, List.forall_mem_cons.mpr ⟨ck35_in _ (List.mem_of_getElem? (i := 4) rfl) rfl, List.forall_mem_cons.mpr ⟨ck35_in _ (List.mem_of_getElem? (i := 6) rfl) rfl, List.forall_mem_cons.mpr ⟨ck35_in _ (List.mem_of_getElem? (i := 8) rfl) rfl, List.forall_mem_cons.mpr ⟨ck36_in _ (List.mem_of_getElem? (i := 0) rfl) rfl, List.forall_mem_cons.mpr ⟨ck36_in _ (List.mem_of_getElem? (i := 2) rfl) rfl, List.forall_mem_cons.mpr ⟨ck36_in _ (List.mem_of_getElem? (i := 4) rfl) rfl, List.forall_mem_cons.mpr ⟨ck36_in _ (List.mem_of_getElem? (i := 6) rfl) rfl, List.forall_mem_cons.mpr ⟨ck36_in _ (List.mem_of_getElem? (i := 8) rfl) rfl, List.forall_mem_cons.mpr ⟨ck36_in _ (List.mem_of_getElem? (i := 10) rfl) rfl, List.forall_mem_cons.mpr ⟨ck36_in _ (List.mem_of_getElem? (i := 12) rfl) rfl, List.forall_mem_cons.mpr ⟨ck36_in _ (List.mem_of_getElem? (i := 14) rfl) rfl, List.forall_mem_cons.mpr ⟨ck36_in _ (List.mem_of_getElem? (i := 16) rfl) rfl, List.forall_mem_cons.mpr ⟨ck36_in _ (List.mem_of_getElem? (i := 18) rfl) rfl, List.forall_mem_cons.mpr ⟨ck36_in _ (List.mem_of_getElem? (i := 20) rfl) rfl, List.forall_mem_cons.mpr ⟨ck36_in _ (List.mem_of_getElem? (i := 22) rfl) rfl, fun w h => absurd h List.not_mem_nil⟩⟩⟩⟩⟩⟩⟩⟩⟩⟩⟩⟩⟩⟩⟩⟩⟩⟩⟩⟩⟩⟩⟩⟩⟩⟩⟩⟩⟩⟩⟩⟩⟩⟩⟩⟩⟩⟩⟩⟩⟩⟩⟩
theorem wi_Math : Cond.initialized "java/lang/Math" ∈ TBL := ck0_in _ (List.mem_of_getElem? (i := 6) rfl) rfl
theorem wi_System : Cond.initialized "java/lang/System" ∈ TBL := ck0_in _ (List.mem_of_getElem? (i := 12) rfl) rfl
theorem wi_L : Cond.initialized RL ∈ TBL := ck0_in _ (List.mem_of_getElem? (i := 0) rfl) rfl
theorem wc_X8_init : Cond.code yX8_init cX8_init 1 none ∈ TBL := ck0_in _ (List.mem_of_getElem? (i := 17) rfl) rfl
theorem wm_X8_init : Cond.instanceMethod yX8_init ∈ TBL := ck0_in _ (List.mem_of_getElem? (i := 16) rfl) rfl
theorem wc_obj : Cond.code objectInit ⟨#[0xb1]⟩ 1 none ∈ TBL := ck0_in _ (List.mem_of_getElem? (i := 20) rfl) rfl
theorem wc_X5_init : Cond.code yX5_init cX5_init 1 none ∈ TBL := ck1_in _ (List.mem_of_getElem? (i := 0) rfl) rfl
theorem wm_X5_init : Cond.instanceMethod yX5_init ∈ TBL := ck0_in _ (List.mem_of_getElem? (i := 24) rfl) rfl
theorem wc_X6_init : Cond.code yX6_init cX6_init 1 none ∈ TBL := ck1_in _ (List.mem_of_getElem? (i := 6) rfl) rfl
theorem wm_X6_init : Cond.instanceMethod yX6_init ∈ TBL := ck1_in _ (List.mem_of_getElem? (i := 5) rfl) rfl
theorem wc_X7_init : Cond.code yX7_init cX7_init 1 none ∈ TBL := ck1_in _ (List.mem_of_getElem? (i := 23) rfl) rfl
theorem wm_X7_init : Cond.instanceMethod yX7_init ∈ TBL := ck1_in _ (List.mem_of_getElem? (i := 22) rfl) rfl
theorem wc_X4_init : Cond.code yX4_init cX4_init 3 none ∈ TBL := ck2_in _ (List.mem_of_getElem? (i := 4) rfl) rfl
theorem wm_X4_init : Cond.instanceMethod yX4_init ∈ TBL := ck2_in _ (List.mem_of_getElem? (i := 3) rfl) rfl
theorem wc_Math_max : Cond.code Lib.Math.max.name Lib.Math.max.code 2 (some .int) ∈ TBL := ck2_in _ (List.mem_of_getElem? (i := 8) rfl) rfl
theorem wc_X0_init : Cond.code yX0_init cX0_init 1 none ∈ TBL := ck4_in _ (List.mem_of_getElem? (i := 7) rfl) rfl
theorem wm_X0_init : Cond.instanceMethod yX0_init ∈ TBL := ck4_in _ (List.mem_of_getElem? (i := 6) rfl) rfl
theorem wc_X1_init : Cond.code yX1_init cX1_init 1 none ∈ TBL := ck4_in _ (List.mem_of_getElem? (i := 17) rfl) rfl
theorem wm_X1_init : Cond.instanceMethod yX1_init ∈ TBL := ck4_in _ (List.mem_of_getElem? (i := 16) rfl) rfl
theorem wc_X3_init : Cond.code yX3_init cX3_init 1 none ∈ TBL := ck7_in _ (List.mem_of_getElem? (i := 7) rfl) rfl
theorem wm_X3_init : Cond.instanceMethod yX3_init ∈ TBL := ck7_in _ (List.mem_of_getElem? (i := 6) rfl) rfl
theorem wc_X2_init : Cond.code yX2_init cX2_init 1 none ∈ TBL := ck8_in _ (List.mem_of_getElem? (i := 4) rfl) rfl
theorem wm_X2_init : Cond.instanceMethod yX2_init ∈ TBL := ck8_in _ (List.mem_of_getElem? (i := 3) rfl) rfl
theorem wc_X8_set : Cond.code yX8_set cX8_set 4 (some .int) ∈ TBL := ck9_in _ (List.mem_of_getElem? (i := 12) rfl) rfl
theorem wm_X8_set : Cond.instanceMethod yX8_set ∈ TBL := ck9_in _ (List.mem_of_getElem? (i := 10) rfl) rfl
theorem ws_X8_set : Cond.selects RX8 yX8_set yX8_set ∈ TBL := ck9_in _ (List.mem_of_getElem? (i := 11) rfl) rfl
theorem wc_X8_isWithin : Cond.code yX8_isWithin cX8_isWithin 2 (some .boolean) ∈ TBL := ck10_in _ (List.mem_of_getElem? (i := 0) rfl) rfl
theorem wt_X8_isWithin : Cond.static yX8_isWithin ∈ TBL := ck9_in _ (List.mem_of_getElem? (i := 14) rfl) rfl
theorem wc_X2_keep : Cond.code yX2_keep cX2_keep 4 none ∈ TBL := ck10_in _ (List.mem_of_getElem? (i := 4) rfl) rfl
theorem wm_X2_keep : Cond.instanceMethod yX2_keep ∈ TBL := ck10_in _ (List.mem_of_getElem? (i := 2) rfl) rfl
theorem ws_X2_keep : Cond.selects RX2 yX2_keep yX2_keep ∈ TBL := ck10_in _ (List.mem_of_getElem? (i := 3) rfl) rfl
theorem wc_X5_copyFrom : Cond.code yX5_copyFrom cX5_copyFrom 2 none ∈ TBL := ck12_in _ (List.mem_of_getElem? (i := 4) rfl) rfl
theorem wm_X5_copyFrom : Cond.instanceMethod yX5_copyFrom ∈ TBL := ck12_in _ (List.mem_of_getElem? (i := 2) rfl) rfl
theorem ws_X5_copyFrom : Cond.selects RX5 yX5_copyFrom yX5_copyFrom ∈ TBL := ck12_in _ (List.mem_of_getElem? (i := 3) rfl) rfl
theorem wc_X6_copyFrom : Cond.code yX6_copyFrom cX6_copyFrom 2 none ∈ TBL := ck12_in _ (List.mem_of_getElem? (i := 8) rfl) rfl
theorem wm_X6_copyFrom : Cond.instanceMethod yX6_copyFrom ∈ TBL := ck12_in _ (List.mem_of_getElem? (i := 6) rfl) rfl
theorem ws_X6_copyFrom : Cond.selects RX6 yX6_copyFrom yX6_copyFrom ∈ TBL := ck12_in _ (List.mem_of_getElem? (i := 7) rfl) rfl
theorem wc_X7_copyFrom : Cond.code yX7_copyFrom cX7_copyFrom 2 none ∈ TBL := ck12_in _ (List.mem_of_getElem? (i := 15) rfl) rfl
theorem wm_X7_copyFrom : Cond.instanceMethod yX7_copyFrom ∈ TBL := ck12_in _ (List.mem_of_getElem? (i := 13) rfl) rfl
theorem ws_X7_copyFrom : Cond.selects RX7 yX7_copyFrom yX7_copyFrom ∈ TBL := ck12_in _ (List.mem_of_getElem? (i := 14) rfl) rfl
theorem wc_X4_copyFrom : Cond.code yX4_copyFrom cX4_copyFrom 3 none ∈ TBL := ck12_in _ (List.mem_of_getElem? (i := 19) rfl) rfl
theorem wm_X4_copyFrom : Cond.instanceMethod yX4_copyFrom ∈ TBL := ck12_in _ (List.mem_of_getElem? (i := 17) rfl) rfl
theorem ws_X4_copyFrom : Cond.selects RX4 yX4_copyFrom yX4_copyFrom ∈ TBL := ck12_in _ (List.mem_of_getElem? (i := 18) rfl) rfl
theorem wc_Math_min : Cond.code Lib.Math.min.name Lib.Math.min.code 2 (some .int) ∈ TBL := ck12_in _ (List.mem_of_getElem? (i := 22) rfl) rfl
theorem wc_X8_trigger : Cond.code yX8_trigger cX8_trigger 5 (some .int) ∈ TBL := ck13_in _ (List.mem_of_getElem? (i := 3) rfl) rfl
theorem wm_X8_trigger : Cond.instanceMethod yX8_trigger ∈ TBL := ck13_in _ (List.mem_of_getElem? (i := 1) rfl) rfl
theorem ws_X8_trigger : Cond.selects RX8 yX8_trigger yX8_trigger ∈ TBL := ck13_in _ (List.mem_of_getElem? (i := 2) rfl) rfl
theorem wc_X7_size : Cond.code yX7_size cX7_size 1 (some .int) ∈ TBL := ck13_in _ (List.mem_of_getElem? (i := 7) rfl) rfl
theorem wm_X7_size : Cond.instanceMethod yX7_size ∈ TBL := ck13_in _ (List.mem_of_getElem? (i := 5) rfl) rfl
theorem ws_X7_size : Cond.selects RX7 yX7_size yX7_size ∈ TBL := ck13_in _ (List.mem_of_getElem? (i := 6) rfl) rfl
theorem wc_X4_size : Cond.code yX4_size cX4_size 1 (some .int) ∈ TBL := ck13_in _ (List.mem_of_getElem? (i := 11) rfl) rfl
theorem wm_X4_size : Cond.instanceMethod yX4_size ∈ TBL := ck13_in _ (List.mem_of_getElem? (i := 9) rfl) rfl
theorem ws_X4_size : Cond.selects RX4 yX4_size yX4_size ∈ TBL := ck13_in _ (List.mem_of_getElem? (i := 10) rfl) rfl
theorem wc_X7_append : Cond.code yX7_append cX7_append 6 (some .int) ∈ TBL := ck13_in _ (List.mem_of_getElem? (i := 15) rfl) rfl
theorem wm_X7_append : Cond.instanceMethod yX7_append ∈ TBL := ck13_in _ (List.mem_of_getElem? (i := 13) rfl) rfl
theorem ws_X7_append : Cond.selects RX7 yX7_append yX7_append ∈ TBL := ck13_in _ (List.mem_of_getElem? (i := 14) rfl) rfl
theorem wc_X4_append : Cond.code yX4_append cX4_append 1 (some .int) ∈ TBL := ck13_in _ (List.mem_of_getElem? (i := 19) rfl) rfl
theorem wm_X4_append : Cond.instanceMethod yX4_append ∈ TBL := ck13_in _ (List.mem_of_getElem? (i := 17) rfl) rfl
theorem ws_X4_append : Cond.selects RX4 yX4_append yX4_append ∈ TBL := ck13_in _ (List.mem_of_getElem? (i := 18) rfl) rfl
theorem wc_X4_change : Cond.code yX4_change cX4_change 4 none ∈ TBL := ck13_in _ (List.mem_of_getElem? (i := 23) rfl) rfl
theorem wm_X4_change : Cond.instanceMethod yX4_change ∈ TBL := ck13_in _ (List.mem_of_getElem? (i := 21) rfl) rfl
theorem ws_X4_change : Cond.selects RX4 yX4_change yX4_change ∈ TBL := ck13_in _ (List.mem_of_getElem? (i := 22) rfl) rfl
theorem wc_X7_giveDeed : Cond.code yX7_giveDeed cX7_giveDeed 6 none ∈ TBL := ck14_in _ (List.mem_of_getElem? (i := 2) rfl) rfl
theorem wm_X7_giveDeed : Cond.instanceMethod yX7_giveDeed ∈ TBL := ck14_in _ (List.mem_of_getElem? (i := 0) rfl) rfl
theorem ws_X7_giveDeed : Cond.selects RX7 yX7_giveDeed yX7_giveDeed ∈ TBL := ck14_in _ (List.mem_of_getElem? (i := 1) rfl) rfl
theorem wc_X8_deed : Cond.code yX8_deed cX8_deed 7 (some .int) ∈ TBL := ck14_in _ (List.mem_of_getElem? (i := 6) rfl) rfl
theorem wm_X8_deed : Cond.instanceMethod yX8_deed ∈ TBL := ck14_in _ (List.mem_of_getElem? (i := 4) rfl) rfl
theorem ws_X8_deed : Cond.selects RX8 yX8_deed yX8_deed ∈ TBL := ck14_in _ (List.mem_of_getElem? (i := 5) rfl) rfl
theorem wc_X7_get : Cond.code yX7_get cX7_get 3 (some .int) ∈ TBL := ck14_in _ (List.mem_of_getElem? (i := 10) rfl) rfl
theorem wm_X7_get : Cond.instanceMethod yX7_get ∈ TBL := ck14_in _ (List.mem_of_getElem? (i := 8) rfl) rfl
theorem ws_X7_get : Cond.selects RX7 yX7_get yX7_get ∈ TBL := ck14_in _ (List.mem_of_getElem? (i := 9) rfl) rfl
theorem wc_X4_get : Cond.code yX4_get cX4_get 4 (some .int) ∈ TBL := ck14_in _ (List.mem_of_getElem? (i := 14) rfl) rfl
theorem wm_X4_get : Cond.instanceMethod yX4_get ∈ TBL := ck14_in _ (List.mem_of_getElem? (i := 12) rfl) rfl
theorem ws_X4_get : Cond.selects RX4 yX4_get yX4_get ∈ TBL := ck14_in _ (List.mem_of_getElem? (i := 13) rfl) rfl
theorem wc_X8_dropTrigger : Cond.code yX8_dropTrigger cX8_dropTrigger 2 (some .int) ∈ TBL := ck14_in _ (List.mem_of_getElem? (i := 19) rfl) rfl
theorem wm_X8_dropTrigger : Cond.instanceMethod yX8_dropTrigger ∈ TBL := ck14_in _ (List.mem_of_getElem? (i := 17) rfl) rfl
theorem ws_X8_dropTrigger : Cond.selects RX8 yX8_dropTrigger yX8_dropTrigger ∈ TBL := ck14_in _ (List.mem_of_getElem? (i := 18) rfl) rfl
theorem wc_X7_remove : Cond.code yX7_remove cX7_remove 2 none ∈ TBL := ck14_in _ (List.mem_of_getElem? (i := 23) rfl) rfl
theorem wm_X7_remove : Cond.instanceMethod yX7_remove ∈ TBL := ck14_in _ (List.mem_of_getElem? (i := 21) rfl) rfl
theorem ws_X7_remove : Cond.selects RX7 yX7_remove yX7_remove ∈ TBL := ck14_in _ (List.mem_of_getElem? (i := 22) rfl) rfl
theorem wc_X4_remove : Cond.code yX4_remove cX4_remove 3 none ∈ TBL := ck15_in _ (List.mem_of_getElem? (i := 2) rfl) rfl
theorem wm_X4_remove : Cond.instanceMethod yX4_remove ∈ TBL := ck15_in _ (List.mem_of_getElem? (i := 0) rfl) rfl
theorem ws_X4_remove : Cond.selects RX4 yX4_remove yX4_remove ∈ TBL := ck15_in _ (List.mem_of_getElem? (i := 1) rfl) rfl
theorem wc_X8_state : Cond.code yX8_state cX8_state 6 (some .int) ∈ TBL := ck15_in _ (List.mem_of_getElem? (i := 6) rfl) rfl
theorem wm_X8_state : Cond.instanceMethod yX8_state ∈ TBL := ck15_in _ (List.mem_of_getElem? (i := 4) rfl) rfl
theorem ws_X8_state : Cond.selects RX8 yX8_state yX8_state ∈ TBL := ck15_in _ (List.mem_of_getElem? (i := 5) rfl) rfl
theorem wc_X8_errorOf : Cond.code yX8_errorOf cX8_errorOf 4 (some .int) ∈ TBL := ck15_in _ (List.mem_of_getElem? (i := 9) rfl) rfl
theorem wt_X8_errorOf : Cond.static yX8_errorOf ∈ TBL := ck15_in _ (List.mem_of_getElem? (i := 8) rfl) rfl
theorem wc_X0_run : Cond.code yX0_run cX0_run 11 none ∈ TBL := ck15_in _ (List.mem_of_getElem? (i := 13) rfl) rfl
theorem wm_X0_run : Cond.instanceMethod yX0_run ∈ TBL := ck15_in _ (List.mem_of_getElem? (i := 11) rfl) rfl
theorem ws_X0_run : Cond.selects RX0 yX0_run yX0_run ∈ TBL := ck15_in _ (List.mem_of_getElem? (i := 12) rfl) rfl
theorem wc_X4_clear : Cond.code yX4_clear cX4_clear 1 none ∈ TBL := ck15_in _ (List.mem_of_getElem? (i := 19) rfl) rfl
theorem wm_X4_clear : Cond.instanceMethod yX4_clear ∈ TBL := ck15_in _ (List.mem_of_getElem? (i := 17) rfl) rfl
theorem ws_X4_clear : Cond.selects RX4 yX4_clear yX4_clear ∈ TBL := ck15_in _ (List.mem_of_getElem? (i := 18) rfl) rfl
theorem wc_X1_clear : Cond.code yX1_clear cX1_clear 1 none ∈ TBL := ck15_in _ (List.mem_of_getElem? (i := 23) rfl) rfl
theorem wm_X1_clear : Cond.instanceMethod yX1_clear ∈ TBL := ck15_in _ (List.mem_of_getElem? (i := 21) rfl) rfl
theorem ws_X1_clear : Cond.selects RX1 yX1_clear yX1_clear ∈ TBL := ck15_in _ (List.mem_of_getElem? (i := 22) rfl) rfl
theorem wc_X0_carry : Cond.code yX0_carry cX0_carry 12 (some .boolean) ∈ TBL := ck16_in _ (List.mem_of_getElem? (i := 2) rfl) rfl
theorem wm_X0_carry : Cond.instanceMethod yX0_carry ∈ TBL := ck16_in _ (List.mem_of_getElem? (i := 1) rfl) rfl
theorem ws_X0_carry : Cond.selects RX0 yX0_carry yX0_carry ∈ TBL := ckp0_in _ (List.mem_of_getElem? (i := 0) rfl) rfl
theorem wc_X1_tell : Cond.code yX1_tell cX1_tell 10 (some .boolean) ∈ TBL := ck16_in _ (List.mem_of_getElem? (i := 6) rfl) rfl
theorem wm_X1_tell : Cond.instanceMethod yX1_tell ∈ TBL := ck16_in _ (List.mem_of_getElem? (i := 4) rfl) rfl
theorem ws_X1_tell : Cond.selects RX1 yX1_tell yX1_tell ∈ TBL := ck16_in _ (List.mem_of_getElem? (i := 5) rfl) rfl
theorem wc_X6_weightOf : Cond.code yX6_weightOf cX6_weightOf 7 (some .int) ∈ TBL := ck16_in _ (List.mem_of_getElem? (i := 13) rfl) rfl
theorem wm_X6_weightOf : Cond.instanceMethod yX6_weightOf ∈ TBL := ck16_in _ (List.mem_of_getElem? (i := 11) rfl) rfl
theorem ws_X6_weightOf : Cond.selects RX6 yX6_weightOf yX6_weightOf ∈ TBL := ck16_in _ (List.mem_of_getElem? (i := 12) rfl) rfl
theorem wc_X6_placeOf : Cond.code yX6_placeOf cX6_placeOf 5 (some .int) ∈ TBL := ck16_in _ (List.mem_of_getElem? (i := 17) rfl) rfl
theorem wm_X6_placeOf : Cond.instanceMethod yX6_placeOf ∈ TBL := ck16_in _ (List.mem_of_getElem? (i := 15) rfl) rfl
theorem ws_X6_placeOf : Cond.selects RX6 yX6_placeOf yX6_placeOf ∈ TBL := ck16_in _ (List.mem_of_getElem? (i := 16) rfl) rfl
theorem wc_X6_sizeOf : Cond.code yX6_sizeOf cX6_sizeOf 2 (some .int) ∈ TBL := ck16_in _ (List.mem_of_getElem? (i := 21) rfl) rfl
theorem wm_X6_sizeOf : Cond.instanceMethod yX6_sizeOf ∈ TBL := ck16_in _ (List.mem_of_getElem? (i := 19) rfl) rfl
theorem ws_X6_sizeOf : Cond.selects RX6 yX6_sizeOf yX6_sizeOf ∈ TBL := ck16_in _ (List.mem_of_getElem? (i := 20) rfl) rfl
theorem wc_X6_numberAt : Cond.code yX6_numberAt cX6_numberAt 3 (some .int) ∈ TBL := ck18_in _ (List.mem_of_getElem? (i := 3) rfl) rfl
theorem wm_X6_numberAt : Cond.instanceMethod yX6_numberAt ∈ TBL := ck18_in _ (List.mem_of_getElem? (i := 1) rfl) rfl
theorem ws_X6_numberAt : Cond.selects RX6 yX6_numberAt yX6_numberAt ∈ TBL := ck18_in _ (List.mem_of_getElem? (i := 2) rfl) rfl
theorem wc_X0_begin : Cond.code yX0_begin cX0_begin 9 (some .int) ∈ TBL := ck18_in _ (List.mem_of_getElem? (i := 7) rfl) rfl
theorem wm_X0_begin : Cond.instanceMethod yX0_begin ∈ TBL := ck18_in _ (List.mem_of_getElem? (i := 6) rfl) rfl
theorem ws_X0_begin : Cond.selects RX0 yX0_begin yX0_begin ∈ TBL := ckp0_in _ (List.mem_of_getElem? (i := 1) rfl) rfl
theorem wc_X0_isLeftOut : Cond.code yX0_isLeftOut cX0_isLeftOut 2 (some .boolean) ∈ TBL := ck18_in _ (List.mem_of_getElem? (i := 13) rfl) rfl
theorem wm_X0_isLeftOut : Cond.instanceMethod yX0_isLeftOut ∈ TBL := ck18_in _ (List.mem_of_getElem? (i := 12) rfl) rfl
theorem ws_X0_isLeftOut : Cond.selects RX0 yX0_isLeftOut yX0_isLeftOut ∈ TBL := ckp0_in _ (List.mem_of_getElem? (i := 2) rfl) rfl
theorem wc_X0_doStage : Cond.code yX0_doStage cX0_doStage 5 (some .boolean) ∈ TBL := ck18_in _ (List.mem_of_getElem? (i := 17) rfl) rfl
theorem wm_X0_doStage : Cond.instanceMethod yX0_doStage ∈ TBL := ck18_in _ (List.mem_of_getElem? (i := 16) rfl) rfl
theorem ws_X0_doStage : Cond.selects RX0 yX0_doStage yX0_doStage ∈ TBL := ckp0_in _ (List.mem_of_getElem? (i := 3) rfl) rfl
theorem wc_X0_isSetOff : Cond.code yX0_isSetOff cX0_isSetOff 4 (some .boolean) ∈ TBL := ck18_in _ (List.mem_of_getElem? (i := 21) rfl) rfl
theorem wm_X0_isSetOff : Cond.instanceMethod yX0_isSetOff ∈ TBL := ck18_in _ (List.mem_of_getElem? (i := 20) rfl) rfl
theorem ws_X0_isSetOff : Cond.selects RX0 yX0_isSetOff yX0_isSetOff ∈ TBL := ckp0_in _ (List.mem_of_getElem? (i := 4) rfl) rfl
theorem wc_X0_doDeed : Cond.code yX0_doDeed cX0_doDeed 7 (some .boolean) ∈ TBL := ck19_in _ (List.mem_of_getElem? (i := 1) rfl) rfl
theorem wm_X0_doDeed : Cond.instanceMethod yX0_doDeed ∈ TBL := ck19_in _ (List.mem_of_getElem? (i := 0) rfl) rfl
theorem ws_X0_doDeed : Cond.selects RX0 yX0_doDeed yX0_doDeed ∈ TBL := ckp0_in _ (List.mem_of_getElem? (i := 5) rfl) rfl
theorem wc_X6_apply : Cond.code yX6_apply cX6_apply 5 none ∈ TBL := ck19_in _ (List.mem_of_getElem? (i := 5) rfl) rfl
theorem wm_X6_apply : Cond.instanceMethod yX6_apply ∈ TBL := ck19_in _ (List.mem_of_getElem? (i := 3) rfl) rfl
theorem ws_X6_apply : Cond.selects RX6 yX6_apply yX6_apply ∈ TBL := ck19_in _ (List.mem_of_getElem? (i := 4) rfl) rfl
theorem wc_X6_insert : Cond.code yX6_insert cX6_insert 6 none ∈ TBL := ck19_in _ (List.mem_of_getElem? (i := 9) rfl) rfl
theorem wm_X6_insert : Cond.instanceMethod yX6_insert ∈ TBL := ck19_in _ (List.mem_of_getElem? (i := 8) rfl) rfl
theorem ws_X6_insert : Cond.selects RX6 yX6_insert yX6_insert ∈ TBL := ckp0_in _ (List.mem_of_getElem? (i := 6) rfl) rfl
theorem wc_X6_renumber : Cond.code yX6_renumber cX6_renumber 4 none ∈ TBL := ck19_in _ (List.mem_of_getElem? (i := 13) rfl) rfl
theorem wm_X6_renumber : Cond.instanceMethod yX6_renumber ∈ TBL := ck19_in _ (List.mem_of_getElem? (i := 12) rfl) rfl
theorem ws_X6_renumber : Cond.selects RX6 yX6_renumber yX6_renumber ∈ TBL := ckp0_in _ (List.mem_of_getElem? (i := 7) rfl) rfl
theorem wc_X6_remove : Cond.code yX6_remove cX6_remove 5 none ∈ TBL := ck19_in _ (List.mem_of_getElem? (i := 17) rfl) rfl
theorem wm_X6_remove : Cond.instanceMethod yX6_remove ∈ TBL := ck19_in _ (List.mem_of_getElem? (i := 16) rfl) rfl
theorem ws_X6_remove : Cond.selects RX6 yX6_remove yX6_remove ∈ TBL := ckp0_in _ (List.mem_of_getElem? (i := 8) rfl) rfl
theorem wc_X0_noteDone : Cond.code yX0_noteDone cX0_noteDone 4 none ∈ TBL := ck19_in _ (List.mem_of_getElem? (i := 21) rfl) rfl
theorem wm_X0_noteDone : Cond.instanceMethod yX0_noteDone ∈ TBL := ck19_in _ (List.mem_of_getElem? (i := 20) rfl) rfl
theorem ws_X0_noteDone : Cond.selects RX0 yX0_noteDone yX0_noteDone ∈ TBL := ckp0_in _ (List.mem_of_getElem? (i := 9) rfl) rfl
theorem wc_X0_queueLastStage : Cond.code yX0_queueLastStage cX0_queueLastStage 4 none ∈ TBL := ck20_in _ (List.mem_of_getElem? (i := 0) rfl) rfl
theorem wm_X0_queueLastStage : Cond.instanceMethod yX0_queueLastStage ∈ TBL := ck19_in _ (List.mem_of_getElem? (i := 24) rfl) rfl
theorem ws_X0_queueLastStage : Cond.selects RX0 yX0_queueLastStage yX0_queueLastStage ∈ TBL := ckp0_in _ (List.mem_of_getElem? (i := 10) rfl) rfl
theorem wc_X1_isThere : Cond.code yX1_isThere cX1_isThere 1 (some .boolean) ∈ TBL := ck20_in _ (List.mem_of_getElem? (i := 4) rfl) rfl
theorem wm_X1_isThere : Cond.instanceMethod yX1_isThere ∈ TBL := ck20_in _ (List.mem_of_getElem? (i := 2) rfl) rfl
theorem ws_X1_isThere : Cond.selects RX1 yX1_isThere yX1_isThere ∈ TBL := ck20_in _ (List.mem_of_getElem? (i := 3) rfl) rfl
theorem wc_X8_takeOver : Cond.code yX8_takeOver cX8_takeOver 1 none ∈ TBL := ck20_in _ (List.mem_of_getElem? (i := 8) rfl) rfl
theorem wm_X8_takeOver : Cond.instanceMethod yX8_takeOver ∈ TBL := ck20_in _ (List.mem_of_getElem? (i := 7) rfl) rfl
theorem ws_X8_takeOver : Cond.selects RX8 yX8_takeOver yX8_takeOver ∈ TBL := ckp0_in _ (List.mem_of_getElem? (i := 11) rfl) rfl
theorem wc_X8_tried : Cond.code yX8_tried cX8_tried 8 (some .int) ∈ TBL := ck20_in _ (List.mem_of_getElem? (i := 15) rfl) rfl
theorem wm_X8_tried : Cond.instanceMethod yX8_tried ∈ TBL := ck20_in _ (List.mem_of_getElem? (i := 13) rfl) rfl
theorem ws_X8_tried : Cond.selects RX8 yX8_tried yX8_tried ∈ TBL := ck20_in _ (List.mem_of_getElem? (i := 14) rfl) rfl
theorem wc_X0_greatestDepth : Cond.code yX0_greatestDepth cX0_greatestDepth 3 (some .int) ∈ TBL := ck20_in _ (List.mem_of_getElem? (i := 19) rfl) rfl
theorem wm_X0_greatestDepth : Cond.instanceMethod yX0_greatestDepth ∈ TBL := ck20_in _ (List.mem_of_getElem? (i := 17) rfl) rfl
theorem ws_X0_greatestDepth : Cond.selects RX0 yX0_greatestDepth yX0_greatestDepth ∈ TBL := ck20_in _ (List.mem_of_getElem? (i := 18) rfl) rfl
theorem wc_X1_blamedAt : Cond.code yX1_blamedAt cX1_blamedAt 2 (some .int) ∈ TBL := ck20_in _ (List.mem_of_getElem? (i := 24) rfl) rfl
theorem wm_X1_blamedAt : Cond.instanceMethod yX1_blamedAt ∈ TBL := ck20_in _ (List.mem_of_getElem? (i := 22) rfl) rfl
theorem ws_X1_blamedAt : Cond.selects RX1 yX1_blamedAt yX1_blamedAt ∈ TBL := ck20_in _ (List.mem_of_getElem? (i := 23) rfl) rfl
theorem wc_X8_row : Cond.code yX8_row cX8_row 4 (some .int) ∈ TBL := ck22_in _ (List.mem_of_getElem? (i := 3) rfl) rfl
theorem wm_X8_row : Cond.instanceMethod yX8_row ∈ TBL := ck22_in _ (List.mem_of_getElem? (i := 1) rfl) rfl
theorem ws_X8_row : Cond.selects RX8 yX8_row yX8_row ∈ TBL := ck22_in _ (List.mem_of_getElem? (i := 2) rfl) rfl
theorem wc_X6_keyAt : Cond.code yX6_keyAt cX6_keyAt 3 (some .int) ∈ TBL := ck22_in _ (List.mem_of_getElem? (i := 8) rfl) rfl
theorem wm_X6_keyAt : Cond.instanceMethod yX6_keyAt ∈ TBL := ck22_in _ (List.mem_of_getElem? (i := 6) rfl) rfl
theorem ws_X6_keyAt : Cond.selects RX6 yX6_keyAt yX6_keyAt ∈ TBL := ck22_in _ (List.mem_of_getElem? (i := 7) rfl) rfl
theorem wc_X8_value : Cond.code yX8_value cX8_value 4 (some .int) ∈ TBL := ck22_in _ (List.mem_of_getElem? (i := 13) rfl) rfl
theorem wm_X8_value : Cond.instanceMethod yX8_value ∈ TBL := ck22_in _ (List.mem_of_getElem? (i := 11) rfl) rfl
theorem ws_X8_value : Cond.selects RX8 yX8_value yX8_value ∈ TBL := ck22_in _ (List.mem_of_getElem? (i := 12) rfl) rfl
theorem wc_X8_ofTrigger : Cond.code yX8_ofTrigger cX8_ofTrigger 3 (some .int) ∈ TBL := ck22_in _ (List.mem_of_getElem? (i := 18) rfl) rfl
theorem wm_X8_ofTrigger : Cond.instanceMethod yX8_ofTrigger ∈ TBL := ck22_in _ (List.mem_of_getElem? (i := 16) rfl) rfl
theorem ws_X8_ofTrigger : Cond.selects RX8 yX8_ofTrigger yX8_ofTrigger ∈ TBL := ck22_in _ (List.mem_of_getElem? (i := 17) rfl) rfl
theorem wc_X7_followers : Cond.code yX7_followers cX7_followers 6 (some .int) ∈ TBL := ck22_in _ (List.mem_of_getElem? (i := 22) rfl) rfl
theorem wm_X7_followers : Cond.instanceMethod yX7_followers ∈ TBL := ck22_in _ (List.mem_of_getElem? (i := 20) rfl) rfl
theorem ws_X7_followers : Cond.selects RX7 yX7_followers yX7_followers ∈ TBL := ck22_in _ (List.mem_of_getElem? (i := 21) rfl) rfl
theorem wc_X7_couldSetOffItself : Cond.code yX7_couldSetOffItself cX7_couldSetOffItself 4 (some .boolean) ∈ TBL := ck23_in _ (List.mem_of_getElem? (i := 1) rfl) rfl
theorem wm_X7_couldSetOffItself : Cond.instanceMethod yX7_couldSetOffItself ∈ TBL := ck22_in _ (List.mem_of_getElem? (i := 24) rfl) rfl
theorem ws_X7_couldSetOffItself : Cond.selects RX7 yX7_couldSetOffItself yX7_couldSetOffItself ∈ TBL := ck23_in _ (List.mem_of_getElem? (i := 0) rfl) rfl
theorem wc_X7_followersOfAll : Cond.code yX7_followersOfAll cX7_followersOfAll 4 (some .int) ∈ TBL := ck23_in _ (List.mem_of_getElem? (i := 6) rfl) rfl
theorem wm_X7_followersOfAll : Cond.instanceMethod yX7_followersOfAll ∈ TBL := ck23_in _ (List.mem_of_getElem? (i := 5) rfl) rfl
theorem ws_X7_followersOfAll : Cond.selects RX7 yX7_followersOfAll yX7_followersOfAll ∈ TBL := ckp0_in _ (List.mem_of_getElem? (i := 12) rfl) rfl
theorem wc_X7_isIn : Cond.code yX7_isIn cX7_isIn 2 (some .boolean) ∈ TBL := ck23_in _ (List.mem_of_getElem? (i := 9) rfl) rfl
theorem wt_X7_isIn : Cond.static yX7_isIn ∈ TBL := ck23_in _ (List.mem_of_getElem? (i := 8) rfl) rfl
theorem wc_X8_journal : Cond.code yX8_journal cX8_journal 3 (some .int) ∈ TBL := ck24_in _ (List.mem_of_getElem? (i := 3) rfl) rfl
theorem wm_X8_journal : Cond.instanceMethod yX8_journal ∈ TBL := ck24_in _ (List.mem_of_getElem? (i := 1) rfl) rfl
theorem ws_X8_journal : Cond.selects RX8 yX8_journal yX8_journal ∈ TBL := ck24_in _ (List.mem_of_getElem? (i := 2) rfl) rfl
theorem wc_X8_count : Cond.code yX8_count cX8_count 2 (some .int) ∈ TBL := ck24_in _ (List.mem_of_getElem? (i := 8) rfl) rfl
theorem wm_X8_count : Cond.instanceMethod yX8_count ∈ TBL := ck24_in _ (List.mem_of_getElem? (i := 6) rfl) rfl
theorem ws_X8_count : Cond.selects RX8 yX8_count yX8_count ∈ TBL := ck24_in _ (List.mem_of_getElem? (i := 7) rfl) rfl
theorem wc_X6_sumOfNumbers : Cond.code yX6_sumOfNumbers cX6_sumOfNumbers 4 (some .int) ∈ TBL := ck24_in _ (List.mem_of_getElem? (i := 12) rfl) rfl
theorem wm_X6_sumOfNumbers : Cond.instanceMethod yX6_sumOfNumbers ∈ TBL := ck24_in _ (List.mem_of_getElem? (i := 10) rfl) rfl
theorem ws_X6_sumOfNumbers : Cond.selects RX6 yX6_sumOfNumbers yX6_sumOfNumbers ∈ TBL := ck24_in _ (List.mem_of_getElem? (i := 11) rfl) rfl
theorem wc_X7_thoseThatCouldSetOffThemselves : Cond.code yX7_thoseThatCouldSetOffThemselves cX7_thoseThatCouldSetOffThemselves 3 (some .int) ∈ TBL := ck24_in _ (List.mem_of_getElem? (i := 16) rfl) rfl
theorem wm_X7_thoseThatCouldSetOffThemselves : Cond.instanceMethod yX7_thoseThatCouldSetOffThemselves ∈ TBL := ck24_in _ (List.mem_of_getElem? (i := 14) rfl) rfl
theorem ws_X7_thoseThatCouldSetOffThemselves : Cond.selects RX7 yX7_thoseThatCouldSetOffThemselves yX7_thoseThatCouldSetOffThemselves ∈ TBL := ck24_in _ (List.mem_of_getElem? (i := 15) rfl) rfl
theorem wc_X3_length : Cond.code yX3_length cX3_length 1 (some .int) ∈ TBL := ck24_in _ (List.mem_of_getElem? (i := 21) rfl) rfl
theorem wm_X3_length : Cond.instanceMethod yX3_length ∈ TBL := ck24_in _ (List.mem_of_getElem? (i := 19) rfl) rfl
theorem ws_X3_length : Cond.selects RX3 yX3_length yX3_length ∈ TBL := ck24_in _ (List.mem_of_getElem? (i := 20) rfl) rfl
theorem wc_X2_size : Cond.code yX2_size cX2_size 1 (some .int) ∈ TBL := ck25_in _ (List.mem_of_getElem? (i := 0) rfl) rfl
theorem wm_X2_size : Cond.instanceMethod yX2_size ∈ TBL := ck24_in _ (List.mem_of_getElem? (i := 23) rfl) rfl
theorem ws_X2_size : Cond.selects RX2 yX2_size yX2_size ∈ TBL := ck24_in _ (List.mem_of_getElem? (i := 24) rfl) rfl
theorem wc_X8_culprits : Cond.code yX8_culprits cX8_culprits 8 (some .int) ∈ TBL := ck25_in _ (List.mem_of_getElem? (i := 4) rfl) rfl
theorem wm_X8_culprits : Cond.instanceMethod yX8_culprits ∈ TBL := ck25_in _ (List.mem_of_getElem? (i := 2) rfl) rfl
theorem ws_X8_culprits : Cond.selects RX8 yX8_culprits yX8_culprits ∈ TBL := ck25_in _ (List.mem_of_getElem? (i := 3) rfl) rfl
theorem wc_X8_leastDepth : Cond.code yX8_leastDepth cX8_leastDepth 7 (some .int) ∈ TBL := ck25_in _ (List.mem_of_getElem? (i := 8) rfl) rfl
theorem wm_X8_leastDepth : Cond.instanceMethod yX8_leastDepth ∈ TBL := ck25_in _ (List.mem_of_getElem? (i := 6) rfl) rfl
theorem ws_X8_leastDepth : Cond.selects RX8 yX8_leastDepth yX8_leastDepth ∈ TBL := ck25_in _ (List.mem_of_getElem? (i := 7) rfl) rfl
theorem wc_X8_put : Cond.code yX8_put cX8_put 4 (some .int) ∈ TBL := ck25_in _ (List.mem_of_getElem? (i := 12) rfl) rfl
theorem wm_X8_put : Cond.instanceMethod yX8_put ∈ TBL := ck25_in _ (List.mem_of_getElem? (i := 10) rfl) rfl
theorem ws_X8_put : Cond.selects RX8 yX8_put yX8_put ∈ TBL := ck25_in _ (List.mem_of_getElem? (i := 11) rfl) rfl
theorem wc_X3_signsIn : Cond.code yX3_signsIn cX3_signsIn 6 (some .int) ∈ TBL := ck25_in _ (List.mem_of_getElem? (i := 15) rfl) rfl
theorem wt_X3_signsIn : Cond.static yX3_signsIn ∈ TBL := ck25_in _ (List.mem_of_getElem? (i := 14) rfl) rfl
theorem wc_X3_append : Cond.code yX3_append cX3_append 5 none ∈ TBL := ck25_in _ (List.mem_of_getElem? (i := 20) rfl) rfl
theorem wm_X3_append : Cond.instanceMethod yX3_append ∈ TBL := ck25_in _ (List.mem_of_getElem? (i := 18) rfl) rfl
theorem ws_X3_append : Cond.selects RX3 yX3_append yX3_append ∈ TBL := ck25_in _ (List.mem_of_getElem? (i := 19) rfl) rfl
theorem wc_X8_wipe : Cond.code yX8_wipe cX8_wipe 2 (some .int) ∈ TBL := ck25_in _ (List.mem_of_getElem? (i := 24) rfl) rfl
theorem wm_X8_wipe : Cond.instanceMethod yX8_wipe ∈ TBL := ck25_in _ (List.mem_of_getElem? (i := 22) rfl) rfl
theorem ws_X8_wipe : Cond.selects RX8 yX8_wipe yX8_wipe ∈ TBL := ck25_in _ (List.mem_of_getElem? (i := 23) rfl) rfl
theorem wc_X3_clear : Cond.code yX3_clear cX3_clear 1 none ∈ TBL := ck26_in _ (List.mem_of_getElem? (i := 3) rfl) rfl
theorem wm_X3_clear : Cond.instanceMethod yX3_clear ∈ TBL := ck26_in _ (List.mem_of_getElem? (i := 1) rfl) rfl
theorem ws_X3_clear : Cond.selects RX3 yX3_clear yX3_clear ∈ TBL := ck26_in _ (List.mem_of_getElem? (i := 2) rfl) rfl
theorem wc_X8_fault : Cond.code yX8_fault cX8_fault 1 (some .int) ∈ TBL := ck26_in _ (List.mem_of_getElem? (i := 7) rfl) rfl
theorem wm_X8_fault : Cond.instanceMethod yX8_fault ∈ TBL := ck26_in _ (List.mem_of_getElem? (i := 5) rfl) rfl
theorem ws_X8_fault : Cond.selects RX8 yX8_fault yX8_fault ∈ TBL := ck26_in _ (List.mem_of_getElem? (i := 6) rfl) rfl
theorem wc_X3_read : Cond.code yX3_read cX3_read 2 (some .int) ∈ TBL := ck26_in _ (List.mem_of_getElem? (i := 11) rfl) rfl
theorem wm_X3_read : Cond.instanceMethod yX3_read ∈ TBL := ck26_in _ (List.mem_of_getElem? (i := 9) rfl) rfl
theorem ws_X3_read : Cond.selects RX3 yX3_read yX3_read ∈ TBL := ck26_in _ (List.mem_of_getElem? (i := 10) rfl) rfl
theorem wc_X3_readStatement : Cond.code yX3_readStatement cX3_readStatement 5 (some .boolean) ∈ TBL := ck26_in _ (List.mem_of_getElem? (i := 16) rfl) rfl
theorem wm_X3_readStatement : Cond.instanceMethod yX3_readStatement ∈ TBL := ck26_in _ (List.mem_of_getElem? (i := 15) rfl) rfl
theorem ws_X3_readStatement : Cond.selects RX3 yX3_readStatement yX3_readStatement ∈ TBL := ckp0_in _ (List.mem_of_getElem? (i := 13) rfl) rfl
theorem wc_X3_readKind : Cond.code yX3_readKind cX3_readKind 1 (some .int) ∈ TBL := ck26_in _ (List.mem_of_getElem? (i := 20) rfl) rfl
theorem wm_X3_readKind : Cond.instanceMethod yX3_readKind ∈ TBL := ck26_in _ (List.mem_of_getElem? (i := 19) rfl) rfl
theorem ws_X3_readKind : Cond.selects RX3 yX3_readKind yX3_readKind ∈ TBL := ckp0_in _ (List.mem_of_getElem? (i := 14) rfl) rfl
theorem wc_X3_accepts : Cond.code yX3_accepts cX3_accepts 2 (some .boolean) ∈ TBL := ck26_in _ (List.mem_of_getElem? (i := 24) rfl) rfl
theorem wm_X3_accepts : Cond.instanceMethod yX3_accepts ∈ TBL := ck26_in _ (List.mem_of_getElem? (i := 23) rfl) rfl
theorem ws_X3_accepts : Cond.selects RX3 yX3_accepts yX3_accepts ∈ TBL := ckp0_in _ (List.mem_of_getElem? (i := 15) rfl) rfl
theorem wc_X3_next : Cond.code yX3_next cX3_next 1 (some .char) ∈ TBL := ck27_in _ (List.mem_of_getElem? (i := 3) rfl) rfl
theorem wm_X3_next : Cond.instanceMethod yX3_next ∈ TBL := ck27_in _ (List.mem_of_getElem? (i := 2) rfl) rfl
theorem ws_X3_next : Cond.selects RX3 yX3_next yX3_next ∈ TBL := ckp1_in _ (List.mem_of_getElem? (i := 0) rfl) rfl
theorem wc_X3_readNumber : Cond.code yX3_readNumber cX3_readNumber 3 (some .int) ∈ TBL := ck29_in _ (List.mem_of_getElem? (i := 3) rfl) rfl
theorem wm_X3_readNumber : Cond.instanceMethod yX3_readNumber ∈ TBL := ck29_in _ (List.mem_of_getElem? (i := 2) rfl) rfl
theorem ws_X3_readNumber : Cond.selects RX3 yX3_readNumber yX3_readNumber ∈ TBL := ckp1_in _ (List.mem_of_getElem? (i := 1) rfl) rfl
theorem wc_X3_digit : Cond.code yX3_digit cX3_digit 2 (some .int) ∈ TBL := ck29_in _ (List.mem_of_getElem? (i := 7) rfl) rfl
theorem wm_X3_digit : Cond.instanceMethod yX3_digit ∈ TBL := ck29_in _ (List.mem_of_getElem? (i := 6) rfl) rfl
theorem ws_X3_digit : Cond.selects RX3 yX3_digit yX3_digit ∈ TBL := ckp1_in _ (List.mem_of_getElem? (i := 2) rfl) rfl
theorem wc_X3_keep : Cond.code yX3_keep cX3_keep 6 none ∈ TBL := ck29_in _ (List.mem_of_getElem? (i := 11) rfl) rfl
theorem wm_X3_keep : Cond.instanceMethod yX3_keep ∈ TBL := ck29_in _ (List.mem_of_getElem? (i := 10) rfl) rfl
theorem ws_X3_keep : Cond.selects RX3 yX3_keep yX3_keep ∈ TBL := ckp1_in _ (List.mem_of_getElem? (i := 3) rfl) rfl
theorem wc_X8_carryOut : Cond.code yX8_carryOut cX8_carryOut 2 (some .int) ∈ TBL := ck29_in _ (List.mem_of_getElem? (i := 17) rfl) rfl
theorem wm_X8_carryOut : Cond.instanceMethod yX8_carryOut ∈ TBL := ck29_in _ (List.mem_of_getElem? (i := 15) rfl) rfl
theorem ws_X8_carryOut : Cond.selects RX8 yX8_carryOut yX8_carryOut ∈ TBL := ck29_in _ (List.mem_of_getElem? (i := 16) rfl) rfl
theorem wc_X3_statements : Cond.code yX3_statements cX3_statements 1 (some .int) ∈ TBL := ck29_in _ (List.mem_of_getElem? (i := 21) rfl) rfl
theorem wm_X3_statements : Cond.instanceMethod yX3_statements ∈ TBL := ck29_in _ (List.mem_of_getElem? (i := 19) rfl) rfl
theorem ws_X3_statements : Cond.selects RX3 yX3_statements yX3_statements ∈ TBL := ck29_in _ (List.mem_of_getElem? (i := 20) rfl) rfl
theorem wc_X3_get : Cond.code yX3_get cX3_get 3 (some .int) ∈ TBL := ck30_in _ (List.mem_of_getElem? (i := 1) rfl) rfl
theorem wm_X3_get : Cond.instanceMethod yX3_get ∈ TBL := ck29_in _ (List.mem_of_getElem? (i := 24) rfl) rfl
theorem ws_X3_get : Cond.selects RX3 yX3_get yX3_get ∈ TBL := ck30_in _ (List.mem_of_getElem? (i := 0) rfl) rfl
theorem wc_X8_undo : Cond.code yX8_undo cX8_undo 1 (some .int) ∈ TBL := ck30_in _ (List.mem_of_getElem? (i := 6) rfl) rfl
theorem wm_X8_undo : Cond.instanceMethod yX8_undo ∈ TBL := ck30_in _ (List.mem_of_getElem? (i := 4) rfl) rfl
theorem ws_X8_undo : Cond.selects RX8 yX8_undo yX8_undo ∈ TBL := ck30_in _ (List.mem_of_getElem? (i := 5) rfl) rfl
theorem wc_X2_takeBack : Cond.code yX2_takeBack cX2_takeBack 4 (some .boolean) ∈ TBL := ck30_in _ (List.mem_of_getElem? (i := 10) rfl) rfl
theorem wm_X2_takeBack : Cond.instanceMethod yX2_takeBack ∈ TBL := ck30_in _ (List.mem_of_getElem? (i := 8) rfl) rfl
theorem ws_X2_takeBack : Cond.selects RX2 yX2_takeBack yX2_takeBack ∈ TBL := ck30_in _ (List.mem_of_getElem? (i := 9) rfl) rfl
theorem wc_X8_save : Cond.code yX8_save cX8_save 3 (some .int) ∈ TBL := ck30_in _ (List.mem_of_getElem? (i := 14) rfl) rfl
theorem wm_X8_save : Cond.instanceMethod yX8_save ∈ TBL := ck30_in _ (List.mem_of_getElem? (i := 12) rfl) rfl
theorem ws_X8_save : Cond.selects RX8 yX8_save yX8_save ∈ TBL := ck30_in _ (List.mem_of_getElem? (i := 13) rfl) rfl
theorem wc_X6_rows : Cond.code yX6_rows cX6_rows 3 (some .int) ∈ TBL := ck30_in _ (List.mem_of_getElem? (i := 19) rfl) rfl
theorem wm_X6_rows : Cond.instanceMethod yX6_rows ∈ TBL := ck30_in _ (List.mem_of_getElem? (i := 17) rfl) rfl
theorem ws_X6_rows : Cond.selects RX6 yX6_rows yX6_rows ∈ TBL := ck30_in _ (List.mem_of_getElem? (i := 18) rfl) rfl
theorem wc_X8_restore : Cond.code yX8_restore cX8_restore 3 (some .int) ∈ TBL := ck30_in _ (List.mem_of_getElem? (i := 23) rfl) rfl
theorem wm_X8_restore : Cond.instanceMethod yX8_restore ∈ TBL := ck30_in _ (List.mem_of_getElem? (i := 21) rfl) rfl
theorem ws_X8_restore : Cond.selects RX8 yX8_restore yX8_restore ∈ TBL := ck30_in _ (List.mem_of_getElem? (i := 22) rfl) rfl
theorem wc_X9_init : Cond.code yX9_init cX9_init 1 none ∈ TBL := ck31_in _ (List.mem_of_getElem? (i := 3) rfl) rfl
theorem wm_X9_init : Cond.instanceMethod yX9_init ∈ TBL := ck31_in _ (List.mem_of_getElem? (i := 2) rfl) rfl
theorem wc_X9_set : Cond.code yX9_set cX9_set 4 (some .int) ∈ TBL := ck37_in _ (List.mem_of_getElem? (i := 4) rfl) rfl
theorem wm_X9_set : Cond.instanceMethod yX9_set ∈ TBL := ck37_in _ (List.mem_of_getElem? (i := 2) rfl) rfl
theorem ws_X9_set : Cond.selects RX9 yX9_set yX9_set ∈ TBL := ck37_in _ (List.mem_of_getElem? (i := 3) rfl) rfl
theorem wc_X9_in : Cond.code yX9_in cX9_in 3 (some .boolean) ∈ TBL := ck37_in _ (List.mem_of_getElem? (i := 7) rfl) rfl
theorem wt_X9_in : Cond.static yX9_in ∈ TBL := ck37_in _ (List.mem_of_getElem? (i := 6) rfl) rfl
theorem wc_X9_records : Cond.code yX9_records cX9_records 2 none ∈ TBL := ck37_in _ (List.mem_of_getElem? (i := 11) rfl) rfl
theorem wm_X9_records : Cond.instanceMethod yX9_records ∈ TBL := ck37_in _ (List.mem_of_getElem? (i := 10) rfl) rfl
theorem ws_X9_records : Cond.selects RX9 yX9_records yX9_records ∈ TBL := ckp1_in _ (List.mem_of_getElem? (i := 4) rfl) rfl
theorem wc_X9_trigger : Cond.code yX9_trigger cX9_trigger 6 (some .int) ∈ TBL := ck37_in _ (List.mem_of_getElem? (i := 15) rfl) rfl
theorem wm_X9_trigger : Cond.instanceMethod yX9_trigger ∈ TBL := ck37_in _ (List.mem_of_getElem? (i := 13) rfl) rfl
theorem ws_X9_trigger : Cond.selects RX9 yX9_trigger yX9_trigger ∈ TBL := ck37_in _ (List.mem_of_getElem? (i := 14) rfl) rfl
theorem wc_X9_isTable : Cond.code yX9_isTable cX9_isTable 1 (some .boolean) ∈ TBL := ck37_in _ (List.mem_of_getElem? (i := 18) rfl) rfl
theorem wt_X9_isTable : Cond.static yX9_isTable ∈ TBL := ck37_in _ (List.mem_of_getElem? (i := 17) rfl) rfl
theorem wc_X9_deed : Cond.code yX9_deed cX9_deed 8 (some .int) ∈ TBL := ck37_in _ (List.mem_of_getElem? (i := 22) rfl) rfl
theorem wm_X9_deed : Cond.instanceMethod yX9_deed ∈ TBL := ck37_in _ (List.mem_of_getElem? (i := 20) rfl) rfl
theorem ws_X9_deed : Cond.selects RX9 yX9_deed yX9_deed ∈ TBL := ck37_in _ (List.mem_of_getElem? (i := 21) rfl) rfl
theorem wc_X9_isTrigger : Cond.code yX9_isTrigger cX9_isTrigger 2 (some .boolean) ∈ TBL := ck38_in _ (List.mem_of_getElem? (i := 1) rfl) rfl
theorem wm_X9_isTrigger : Cond.instanceMethod yX9_isTrigger ∈ TBL := ck38_in _ (List.mem_of_getElem? (i := 0) rfl) rfl
theorem ws_X9_isTrigger : Cond.selects RX9 yX9_isTrigger yX9_isTrigger ∈ TBL := ckp1_in _ (List.mem_of_getElem? (i := 5) rfl) rfl
theorem wc_X9_of : Cond.code yX9_of cX9_of 3 (some .int) ∈ TBL := ck38_in _ (List.mem_of_getElem? (i := 5) rfl) rfl
theorem wm_X9_of : Cond.instanceMethod yX9_of ∈ TBL := ck38_in _ (List.mem_of_getElem? (i := 4) rfl) rfl
theorem ws_X9_of : Cond.selects RX9 yX9_of yX9_of ∈ TBL := ckp1_in _ (List.mem_of_getElem? (i := 6) rfl) rfl
theorem wc_X9_dropTrigger : Cond.code yX9_dropTrigger cX9_dropTrigger 4 (some .int) ∈ TBL := ck38_in _ (List.mem_of_getElem? (i := 9) rfl) rfl
theorem wm_X9_dropTrigger : Cond.instanceMethod yX9_dropTrigger ∈ TBL := ck38_in _ (List.mem_of_getElem? (i := 7) rfl) rfl
theorem ws_X9_dropTrigger : Cond.selects RX9 yX9_dropTrigger yX9_dropTrigger ∈ TBL := ck38_in _ (List.mem_of_getElem? (i := 8) rfl) rfl
theorem wc_X9_state : Cond.code yX9_state cX9_state 6 (some .int) ∈ TBL := ck38_in _ (List.mem_of_getElem? (i := 13) rfl) rfl
theorem wm_X9_state : Cond.instanceMethod yX9_state ∈ TBL := ck38_in _ (List.mem_of_getElem? (i := 11) rfl) rfl
theorem ws_X9_state : Cond.selects RX9 yX9_state yX9_state ∈ TBL := ck38_in _ (List.mem_of_getElem? (i := 12) rfl) rfl
theorem wc_X9_refuses : Cond.code yX9_refuses cX9_refuses 4 (some .int) ∈ TBL := ck38_in _ (List.mem_of_getElem? (i := 16) rfl) rfl
theorem wt_X9_refuses : Cond.static yX9_refuses ∈ TBL := ck38_in _ (List.mem_of_getElem? (i := 15) rfl) rfl
theorem wc_X9_tries : Cond.code yX9_tries cX9_tries 5 (some .boolean) ∈ TBL := ck38_in _ (List.mem_of_getElem? (i := 20) rfl) rfl
theorem wm_X9_tries : Cond.instanceMethod yX9_tries ∈ TBL := ck38_in _ (List.mem_of_getElem? (i := 19) rfl) rfl
theorem ws_X9_tries : Cond.selects RX9 yX9_tries yX9_tries ∈ TBL := ckp1_in _ (List.mem_of_getElem? (i := 7) rfl) rfl
theorem wc_X9_putAside : Cond.code yX9_putAside cX9_putAside 2 none ∈ TBL := ck38_in _ (List.mem_of_getElem? (i := 24) rfl) rfl
theorem wm_X9_putAside : Cond.instanceMethod yX9_putAside ∈ TBL := ck38_in _ (List.mem_of_getElem? (i := 23) rfl) rfl
theorem ws_X9_putAside : Cond.selects RX9 yX9_putAside yX9_putAside ∈ TBL := ckp1_in _ (List.mem_of_getElem? (i := 8) rfl) rfl
theorem wc_X9_carries : Cond.code yX9_carries cX9_carries 8 none ∈ TBL := ck39_in _ (List.mem_of_getElem? (i := 3) rfl) rfl
theorem wm_X9_carries : Cond.instanceMethod yX9_carries ∈ TBL := ck39_in _ (List.mem_of_getElem? (i := 2) rfl) rfl
theorem ws_X9_carries : Cond.selects RX9 yX9_carries yX9_carries ∈ TBL := ckp1_in _ (List.mem_of_getElem? (i := 9) rfl) rfl
theorem wc_X9_begins : Cond.code yX9_begins cX9_begins 6 none ∈ TBL := ck39_in _ (List.mem_of_getElem? (i := 7) rfl) rfl
theorem wm_X9_begins : Cond.instanceMethod yX9_begins ∈ TBL := ck39_in _ (List.mem_of_getElem? (i := 6) rfl) rfl
theorem ws_X9_begins : Cond.selects RX9 yX9_begins yX9_begins ∈ TBL := ckp1_in _ (List.mem_of_getElem? (i := 10) rfl) rfl
theorem wc_X9_fails : Cond.code yX9_fails cX9_fails 6 none ∈ TBL := ck39_in _ (List.mem_of_getElem? (i := 11) rfl) rfl
theorem wm_X9_fails : Cond.instanceMethod yX9_fails ∈ TBL := ck39_in _ (List.mem_of_getElem? (i := 10) rfl) rfl
theorem ws_X9_fails : Cond.selects RX9 yX9_fails yX9_fails ∈ TBL := ckp1_in _ (List.mem_of_getElem? (i := 11) rfl) rfl
theorem wc_X9_isPossible : Cond.code yX9_isPossible cX9_isPossible 6 (some .boolean) ∈ TBL := ck39_in _ (List.mem_of_getElem? (i := 15) rfl) rfl
theorem wm_X9_isPossible : Cond.instanceMethod yX9_isPossible ∈ TBL := ck39_in _ (List.mem_of_getElem? (i := 14) rfl) rfl
theorem ws_X9_isPossible : Cond.selects RX9 yX9_isPossible yX9_isPossible ∈ TBL := ckp1_in _ (List.mem_of_getElem? (i := 12) rfl) rfl
theorem wc_X9_numberOf : Cond.code yX9_numberOf cX9_numberOf 4 (some .int) ∈ TBL := ck39_in _ (List.mem_of_getElem? (i := 19) rfl) rfl
theorem wm_X9_numberOf : Cond.instanceMethod yX9_numberOf ∈ TBL := ck39_in _ (List.mem_of_getElem? (i := 18) rfl) rfl
theorem ws_X9_numberOf : Cond.selects RX9 yX9_numberOf yX9_numberOf ∈ TBL := ckp1_in _ (List.mem_of_getElem? (i := 13) rfl) rfl
theorem wc_X9_placeOf : Cond.code yX9_placeOf cX9_placeOf 4 (some .int) ∈ TBL := ck39_in _ (List.mem_of_getElem? (i := 23) rfl) rfl
theorem wm_X9_placeOf : Cond.instanceMethod yX9_placeOf ∈ TBL := ck39_in _ (List.mem_of_getElem? (i := 22) rfl) rfl
theorem ws_X9_placeOf : Cond.selects RX9 yX9_placeOf yX9_placeOf ∈ TBL := ckp1_in _ (List.mem_of_getElem? (i := 14) rfl) rfl
theorem wc_X9_rows : Cond.code yX9_rows cX9_rows 2 (some .int) ∈ TBL := ck40_in _ (List.mem_of_getElem? (i := 2) rfl) rfl
theorem wm_X9_rows : Cond.instanceMethod yX9_rows ∈ TBL := ck40_in _ (List.mem_of_getElem? (i := 1) rfl) rfl
theorem ws_X9_rows : Cond.selects RX9 yX9_rows yX9_rows ∈ TBL := ckp1_in _ (List.mem_of_getElem? (i := 15) rfl) rfl
theorem wc_X9_rowAt : Cond.code yX9_rowAt cX9_rowAt 2 (some .int) ∈ TBL := ck40_in _ (List.mem_of_getElem? (i := 5) rfl) rfl
theorem wt_X9_rowAt : Cond.static yX9_rowAt ∈ TBL := ck40_in _ (List.mem_of_getElem? (i := 4) rfl) rfl
theorem wc_X9_clears : Cond.code yX9_clears cX9_clears 1 none ∈ TBL := ck40_in _ (List.mem_of_getElem? (i := 9) rfl) rfl
theorem wm_X9_clears : Cond.instanceMethod yX9_clears ∈ TBL := ck40_in _ (List.mem_of_getElem? (i := 8) rfl) rfl
theorem ws_X9_clears : Cond.selects RX9 yX9_clears yX9_clears ∈ TBL := ckp2_in _ (List.mem_of_getElem? (i := 0) rfl) rfl
theorem wc_X9_goesOn : Cond.code yX9_goesOn cX9_goesOn 5 none ∈ TBL := ck40_in _ (List.mem_of_getElem? (i := 13) rfl) rfl
theorem wm_X9_goesOn : Cond.instanceMethod yX9_goesOn ∈ TBL := ck40_in _ (List.mem_of_getElem? (i := 12) rfl) rfl
theorem ws_X9_goesOn : Cond.selects RX9 yX9_goesOn yX9_goesOn ∈ TBL := ckp2_in _ (List.mem_of_getElem? (i := 1) rfl) rfl
theorem wc_X9_isSetOff : Cond.code yX9_isSetOff cX9_isSetOff 5 (some .boolean) ∈ TBL := ck40_in _ (List.mem_of_getElem? (i := 17) rfl) rfl
theorem wm_X9_isSetOff : Cond.instanceMethod yX9_isSetOff ∈ TBL := ck40_in _ (List.mem_of_getElem? (i := 16) rfl) rfl
theorem ws_X9_isSetOff : Cond.selects RX9 yX9_isSetOff yX9_isSetOff ∈ TBL := ckp2_in _ (List.mem_of_getElem? (i := 2) rfl) rfl
theorem wc_X9_waitsFor : Cond.code yX9_waitsFor cX9_waitsFor 4 none ∈ TBL := ck40_in _ (List.mem_of_getElem? (i := 21) rfl) rfl
theorem wm_X9_waitsFor : Cond.instanceMethod yX9_waitsFor ∈ TBL := ck40_in _ (List.mem_of_getElem? (i := 20) rfl) rfl
theorem ws_X9_waitsFor : Cond.selects RX9 yX9_waitsFor yX9_waitsFor ∈ TBL := ckp2_in _ (List.mem_of_getElem? (i := 3) rfl) rfl
theorem wc_X9_does : Cond.code yX9_does cX9_does 5 none ∈ TBL := ck41_in _ (List.mem_of_getElem? (i := 0) rfl) rfl
theorem wm_X9_does : Cond.instanceMethod yX9_does ∈ TBL := ck40_in _ (List.mem_of_getElem? (i := 24) rfl) rfl
theorem ws_X9_does : Cond.selects RX9 yX9_does yX9_does ∈ TBL := ckp2_in _ (List.mem_of_getElem? (i := 4) rfl) rfl
theorem wc_X9_isDone : Cond.code yX9_isDone cX9_isDone 5 none ∈ TBL := ck41_in _ (List.mem_of_getElem? (i := 4) rfl) rfl
theorem wm_X9_isDone : Cond.instanceMethod yX9_isDone ∈ TBL := ck41_in _ (List.mem_of_getElem? (i := 3) rfl) rfl
theorem ws_X9_isDone : Cond.selects RX9 yX9_isDone yX9_isDone ∈ TBL := ckp2_in _ (List.mem_of_getElem? (i := 5) rfl) rfl
theorem wc_X9_lays : Cond.code yX9_lays cX9_lays 5 none ∈ TBL := ck41_in _ (List.mem_of_getElem? (i := 8) rfl) rfl
theorem wm_X9_lays : Cond.instanceMethod yX9_lays ∈ TBL := ck41_in _ (List.mem_of_getElem? (i := 7) rfl) rfl
theorem ws_X9_lays : Cond.selects RX9 yX9_lays yX9_lays ∈ TBL := ckp2_in _ (List.mem_of_getElem? (i := 6) rfl) rfl
theorem wc_X9_drops : Cond.code yX9_drops cX9_drops 5 none ∈ TBL := ck41_in _ (List.mem_of_getElem? (i := 12) rfl) rfl
theorem wm_X9_drops : Cond.instanceMethod yX9_drops ∈ TBL := ck41_in _ (List.mem_of_getElem? (i := 11) rfl) rfl
theorem ws_X9_drops : Cond.selects RX9 yX9_drops yX9_drops ∈ TBL := ckp2_in _ (List.mem_of_getElem? (i := 7) rfl) rfl
theorem wc_X9_takeBack : Cond.code yX9_takeBack cX9_takeBack 2 none ∈ TBL := ck41_in _ (List.mem_of_getElem? (i := 16) rfl) rfl
theorem wm_X9_takeBack : Cond.instanceMethod yX9_takeBack ∈ TBL := ck41_in _ (List.mem_of_getElem? (i := 15) rfl) rfl
theorem ws_X9_takeBack : Cond.selects RX9 yX9_takeBack yX9_takeBack ∈ TBL := ckp2_in _ (List.mem_of_getElem? (i := 8) rfl) rfl
theorem wc_X9_states : Cond.code yX9_states cX9_states 5 (some .boolean) ∈ TBL := ck41_in _ (List.mem_of_getElem? (i := 20) rfl) rfl
theorem wm_X9_states : Cond.instanceMethod yX9_states ∈ TBL := ck41_in _ (List.mem_of_getElem? (i := 19) rfl) rfl
theorem ws_X9_states : Cond.selects RX9 yX9_states yX9_states ∈ TBL := ckp2_in _ (List.mem_of_getElem? (i := 9) rfl) rfl
theorem wc_X9_writesJournal : Cond.code yX9_writesJournal cX9_writesJournal 2 none ∈ TBL := ck41_in _ (List.mem_of_getElem? (i := 24) rfl) rfl
theorem wm_X9_writesJournal : Cond.instanceMethod yX9_writesJournal ∈ TBL := ck41_in _ (List.mem_of_getElem? (i := 23) rfl) rfl
theorem ws_X9_writesJournal : Cond.selects RX9 yX9_writesJournal yX9_writesJournal ∈ TBL := ckp2_in _ (List.mem_of_getElem? (i := 10) rfl) rfl
theorem wc_X9_tried : Cond.code yX9_tried cX9_tried 8 (some .int) ∈ TBL := ck42_in _ (List.mem_of_getElem? (i := 3) rfl) rfl
theorem wm_X9_tried : Cond.instanceMethod yX9_tried ∈ TBL := ck42_in _ (List.mem_of_getElem? (i := 1) rfl) rfl
theorem ws_X9_tried : Cond.selects RX9 yX9_tried yX9_tried ∈ TBL := ck42_in _ (List.mem_of_getElem? (i := 2) rfl) rfl
theorem wc_X9_row : Cond.code yX9_row cX9_row 4 (some .int) ∈ TBL := ck42_in _ (List.mem_of_getElem? (i := 7) rfl) rfl
theorem wm_X9_row : Cond.instanceMethod yX9_row ∈ TBL := ck42_in _ (List.mem_of_getElem? (i := 5) rfl) rfl
theorem ws_X9_row : Cond.selects RX9 yX9_row yX9_row ∈ TBL := ck42_in _ (List.mem_of_getElem? (i := 6) rfl) rfl
theorem wc_X9_value : Cond.code yX9_value cX9_value 3 (some .int) ∈ TBL := ck42_in _ (List.mem_of_getElem? (i := 11) rfl) rfl
theorem wm_X9_value : Cond.instanceMethod yX9_value ∈ TBL := ck42_in _ (List.mem_of_getElem? (i := 9) rfl) rfl
theorem ws_X9_value : Cond.selects RX9 yX9_value yX9_value ∈ TBL := ck42_in _ (List.mem_of_getElem? (i := 10) rfl) rfl
theorem wc_X9_ofTrigger : Cond.code yX9_ofTrigger cX9_ofTrigger 3 (some .int) ∈ TBL := ck42_in _ (List.mem_of_getElem? (i := 15) rfl) rfl
theorem wm_X9_ofTrigger : Cond.instanceMethod yX9_ofTrigger ∈ TBL := ck42_in _ (List.mem_of_getElem? (i := 13) rfl) rfl
theorem ws_X9_ofTrigger : Cond.selects RX9 yX9_ofTrigger yX9_ofTrigger ∈ TBL := ck42_in _ (List.mem_of_getElem? (i := 14) rfl) rfl
theorem wc_X9_laysSets : Cond.code yX9_laysSets cX9_laysSets 4 none ∈ TBL := ck42_in _ (List.mem_of_getElem? (i := 19) rfl) rfl
theorem wm_X9_laysSets : Cond.instanceMethod yX9_laysSets ∈ TBL := ck42_in _ (List.mem_of_getElem? (i := 18) rfl) rfl
theorem ws_X9_laysSets : Cond.selects RX9 yX9_laysSets yX9_laysSets ∈ TBL := ckp2_in _ (List.mem_of_getElem? (i := 11) rfl) rfl
theorem wc_X9_journal : Cond.code yX9_journal cX9_journal 3 (some .int) ∈ TBL := ck42_in _ (List.mem_of_getElem? (i := 23) rfl) rfl
theorem wm_X9_journal : Cond.instanceMethod yX9_journal ∈ TBL := ck42_in _ (List.mem_of_getElem? (i := 21) rfl) rfl
theorem ws_X9_journal : Cond.selects RX9 yX9_journal yX9_journal ∈ TBL := ck42_in _ (List.mem_of_getElem? (i := 22) rfl) rfl
theorem wc_X9_count : Cond.code yX9_count cX9_count 2 (some .int) ∈ TBL := ck43_in _ (List.mem_of_getElem? (i := 2) rfl) rfl
theorem wm_X9_count : Cond.instanceMethod yX9_count ∈ TBL := ck43_in _ (List.mem_of_getElem? (i := 0) rfl) rfl
theorem ws_X9_count : Cond.selects RX9 yX9_count yX9_count ∈ TBL := ck43_in _ (List.mem_of_getElem? (i := 1) rfl) rfl
theorem wc_X9_sumOfNumbers : Cond.code yX9_sumOfNumbers cX9_sumOfNumbers 4 (some .int) ∈ TBL := ck43_in _ (List.mem_of_getElem? (i := 6) rfl) rfl
theorem wm_X9_sumOfNumbers : Cond.instanceMethod yX9_sumOfNumbers ∈ TBL := ck43_in _ (List.mem_of_getElem? (i := 5) rfl) rfl
theorem ws_X9_sumOfNumbers : Cond.selects RX9 yX9_sumOfNumbers yX9_sumOfNumbers ∈ TBL := ckp2_in _ (List.mem_of_getElem? (i := 12) rfl) rfl
theorem wc_X9_selves : Cond.code yX9_selves cX9_selves 3 (some .int) ∈ TBL := ck43_in _ (List.mem_of_getElem? (i := 10) rfl) rfl
theorem wm_X9_selves : Cond.instanceMethod yX9_selves ∈ TBL := ck43_in _ (List.mem_of_getElem? (i := 9) rfl) rfl
theorem ws_X9_selves : Cond.selects RX9 yX9_selves yX9_selves ∈ TBL := ckp2_in _ (List.mem_of_getElem? (i := 13) rfl) rfl
theorem wc_X9_culprits : Cond.code yX9_culprits cX9_culprits 8 (some .int) ∈ TBL := ck43_in _ (List.mem_of_getElem? (i := 14) rfl) rfl
theorem wm_X9_culprits : Cond.instanceMethod yX9_culprits ∈ TBL := ck43_in _ (List.mem_of_getElem? (i := 12) rfl) rfl
theorem ws_X9_culprits : Cond.selects RX9 yX9_culprits yX9_culprits ∈ TBL := ck43_in _ (List.mem_of_getElem? (i := 13) rfl) rfl
theorem wc_X9_leastDepth : Cond.code yX9_leastDepth cX9_leastDepth 9 (some .int) ∈ TBL := ck43_in _ (List.mem_of_getElem? (i := 18) rfl) rfl
theorem wm_X9_leastDepth : Cond.instanceMethod yX9_leastDepth ∈ TBL := ck43_in _ (List.mem_of_getElem? (i := 16) rfl) rfl
theorem ws_X9_leastDepth : Cond.selects RX9 yX9_leastDepth yX9_leastDepth ∈ TBL := ck43_in _ (List.mem_of_getElem? (i := 17) rfl) rfl
theorem wc_X9_put : Cond.code yX9_put cX9_put 8 (some .int) ∈ TBL := ck43_in _ (List.mem_of_getElem? (i := 22) rfl) rfl
theorem wm_X9_put : Cond.instanceMethod yX9_put ∈ TBL := ck43_in _ (List.mem_of_getElem? (i := 20) rfl) rfl
theorem ws_X9_put : Cond.selects RX9 yX9_put yX9_put ∈ TBL := ck43_in _ (List.mem_of_getElem? (i := 21) rfl) rfl
theorem wc_X9_wipe : Cond.code yX9_wipe cX9_wipe 2 (some .int) ∈ TBL := ck44_in _ (List.mem_of_getElem? (i := 2) rfl) rfl
theorem wm_X9_wipe : Cond.instanceMethod yX9_wipe ∈ TBL := ck44_in _ (List.mem_of_getElem? (i := 0) rfl) rfl
theorem ws_X9_wipe : Cond.selects RX9 yX9_wipe yX9_wipe ∈ TBL := ck44_in _ (List.mem_of_getElem? (i := 1) rfl) rfl
theorem wc_X9_fault : Cond.code yX9_fault cX9_fault 1 (some .int) ∈ TBL := ck44_in _ (List.mem_of_getElem? (i := 6) rfl) rfl
theorem wm_X9_fault : Cond.instanceMethod yX9_fault ∈ TBL := ck44_in _ (List.mem_of_getElem? (i := 4) rfl) rfl
theorem ws_X9_fault : Cond.selects RX9 yX9_fault yX9_fault ∈ TBL := ck44_in _ (List.mem_of_getElem? (i := 5) rfl) rfl
theorem wc_X9_reads : Cond.code yX9_reads cX9_reads 1 (some .int) ∈ TBL := ck44_in _ (List.mem_of_getElem? (i := 10) rfl) rfl
theorem wm_X9_reads : Cond.instanceMethod yX9_reads ∈ TBL := ck44_in _ (List.mem_of_getElem? (i := 9) rfl) rfl
theorem ws_X9_reads : Cond.selects RX9 yX9_reads yX9_reads ∈ TBL := ckp2_in _ (List.mem_of_getElem? (i := 14) rfl) rfl
theorem wc_X9_readsStatement : Cond.code yX9_readsStatement cX9_readsStatement 6 none ∈ TBL := ck44_in _ (List.mem_of_getElem? (i := 14) rfl) rfl
theorem wm_X9_readsStatement : Cond.instanceMethod yX9_readsStatement ∈ TBL := ck44_in _ (List.mem_of_getElem? (i := 13) rfl) rfl
theorem ws_X9_readsStatement : Cond.selects RX9 yX9_readsStatement yX9_readsStatement ∈ TBL := ckp2_in _ (List.mem_of_getElem? (i := 15) rfl) rfl
theorem wc_X9_sign : Cond.code yX9_sign cX9_sign 1 (some .int) ∈ TBL := ck44_in _ (List.mem_of_getElem? (i := 18) rfl) rfl
theorem wm_X9_sign : Cond.instanceMethod yX9_sign ∈ TBL := ck44_in _ (List.mem_of_getElem? (i := 17) rfl) rfl
theorem ws_X9_sign : Cond.selects RX9 yX9_sign yX9_sign ∈ TBL := ckp3_in _ (List.mem_of_getElem? (i := 0) rfl) rfl
theorem wc_X9_takes : Cond.code yX9_takes cX9_takes 4 (some .int) ∈ TBL := ck44_in _ (List.mem_of_getElem? (i := 22) rfl) rfl
theorem wm_X9_takes : Cond.instanceMethod yX9_takes ∈ TBL := ck44_in _ (List.mem_of_getElem? (i := 21) rfl) rfl
theorem ws_X9_takes : Cond.selects RX9 yX9_takes yX9_takes ∈ TBL := ckp3_in _ (List.mem_of_getElem? (i := 1) rfl) rfl
theorem wc_X9_number : Cond.code yX9_number cX9_number 4 (some .int) ∈ TBL := ck45_in _ (List.mem_of_getElem? (i := 1) rfl) rfl
theorem wm_X9_number : Cond.instanceMethod yX9_number ∈ TBL := ck45_in _ (List.mem_of_getElem? (i := 0) rfl) rfl
theorem ws_X9_number : Cond.selects RX9 yX9_number yX9_number ∈ TBL := ckp3_in _ (List.mem_of_getElem? (i := 2) rfl) rfl
theorem wc_X9_carryOut : Cond.code yX9_carryOut cX9_carryOut 2 (some .int) ∈ TBL := ck45_in _ (List.mem_of_getElem? (i := 5) rfl) rfl
theorem wm_X9_carryOut : Cond.instanceMethod yX9_carryOut ∈ TBL := ck45_in _ (List.mem_of_getElem? (i := 3) rfl) rfl
theorem ws_X9_carryOut : Cond.selects RX9 yX9_carryOut yX9_carryOut ∈ TBL := ck45_in _ (List.mem_of_getElem? (i := 4) rfl) rfl
theorem wc_X9_undo : Cond.code yX9_undo cX9_undo 2 (some .int) ∈ TBL := ck45_in _ (List.mem_of_getElem? (i := 9) rfl) rfl
theorem wm_X9_undo : Cond.instanceMethod yX9_undo ∈ TBL := ck45_in _ (List.mem_of_getElem? (i := 7) rfl) rfl
theorem ws_X9_undo : Cond.selects RX9 yX9_undo yX9_undo ∈ TBL := ck45_in _ (List.mem_of_getElem? (i := 8) rfl) rfl
theorem wc_X9_save : Cond.code yX9_save cX9_save 3 (some .int) ∈ TBL := ck45_in _ (List.mem_of_getElem? (i := 13) rfl) rfl
theorem wm_X9_save : Cond.instanceMethod yX9_save ∈ TBL := ck45_in _ (List.mem_of_getElem? (i := 11) rfl) rfl
theorem ws_X9_save : Cond.selects RX9 yX9_save yX9_save ∈ TBL := ck45_in _ (List.mem_of_getElem? (i := 12) rfl) rfl
theorem wc_X9_allRows : Cond.code yX9_allRows cX9_allRows 3 (some .int) ∈ TBL := ck46_in _ (List.mem_of_getElem? (i := 2) rfl) rfl
theorem wm_X9_allRows : Cond.instanceMethod yX9_allRows ∈ TBL := ck46_in _ (List.mem_of_getElem? (i := 1) rfl) rfl
theorem ws_X9_allRows : Cond.selects RX9 yX9_allRows yX9_allRows ∈ TBL := ckp3_in _ (List.mem_of_getElem? (i := 3) rfl) rfl
theorem wc_X9_restore : Cond.code yX9_restore cX9_restore 3 (some .int) ∈ TBL := ck46_in _ (List.mem_of_getElem? (i := 6) rfl) rfl
theorem wm_X9_restore : Cond.instanceMethod yX9_restore ∈ TBL := ck46_in _ (List.mem_of_getElem? (i := 4) rfl) rfl
theorem ws_X9_restore : Cond.selects RX9 yX9_restore yX9_restore ∈ TBL := ck46_in _ (List.mem_of_getElem? (i := 5) rfl) rfl
theorem wm_obj : Cond.instanceMethod objectInit ∈ TBL := ck0_in _ (List.mem_of_getElem? (i := 19) rfl) rfl
theorem wt_Math_max : Cond.static Lib.Math.max.name ∈ TBL := ck2_in _ (List.mem_of_getElem? (i := 7) rfl) rfl
theorem wt_Math_min : Cond.static Lib.Math.min.name ∈ TBL := ck12_in _ (List.mem_of_getElem? (i := 21) rfl) rfl
theorem wt_copy : Cond.static arraycopyName ∈ TBL := ck12_in _ (List.mem_of_getElem? (i := 10) rfl) rfl
theorem wa_int : Cond.arrayClass .int ∈ TBL := ck1_in _ (List.mem_of_getElem? (i := 18) rfl) rfl
theorem wa_char : Cond.arrayClass .char ∈ TBL := ck7_in _ (List.mem_of_getElem? (i := 24) rfl) rfl
theorem wo_X5 : Cond.arrayOver (.object RX5) ∈ lw_tbl := List.mem_append_right _ (List.mem_of_getElem? (i := 207) (by decide +kernel))
theorem wv_copy : Cond.native arraycopyName ∈ TBL := ck12_in _ (List.mem_of_getElem? (i := 11) rfl) rfl
theorem wk_X3_31 : Cond.constantLong RX3 31 255 ∈ TBL := ck25_in _ (List.mem_of_getElem? (i := 16) rfl) rfl
theorem wa_boolean : Cond.arrayClass .boolean ∈ TBL := ck37_in _ (List.mem_of_getElem? (i := 0) rfl) rfl
theorem wk_X9_234 : Cond.constantLong RX9 234 255 ∈ TBL := ck43_in _ (List.mem_of_getElem? (i := 23) rfl) rfl
theorem wk_L_70 : Cond.constantLong RL 70 4294967295 ∈ TBL := ck46_in _ (List.mem_of_getElem? (i := 7) rfl) rfl
theorem wl_X6_9 : Cond.fieldLink RX6 9 "TriggerStages$Tables" "sizes" "[I" ∈ TBL := ck1_in _ (List.mem_of_getElem? (i := 8) rfl) rfl
theorem wl_X6_15 : Cond.fieldLink RX6 15 "TriggerStages$Tables" "keys" "[I" ∈ TBL := ck1_in _ (List.mem_of_getElem? (i := 9) rfl) rfl
theorem wl_X6_18 : Cond.fieldLink RX6 18 "TriggerStages$Tables" "numbers" "[I" ∈ TBL := ck1_in _ (List.mem_of_getElem? (i := 10) rfl) rfl
theorem wl_X4_21 : Cond.fieldLink RX4 21 "TriggerStages$Sheet" "limit" "I" ∈ TBL := ck2_in _ (List.mem_of_getElem? (i := 9) rfl) rfl
theorem wl_X4_24 : Cond.fieldLink RX4 24 "TriggerStages$Sheet" "width" "I" ∈ TBL := ck2_in _ (List.mem_of_getElem? (i := 10) rfl) rfl
theorem wl_X4_27 : Cond.fieldLink RX4 27 "TriggerStages$Sheet" "cells" "[I" ∈ TBL := ck2_in _ (List.mem_of_getElem? (i := 11) rfl) rfl
theorem wl_X4_9 : Cond.fieldLink RX4 9 "TriggerStages$Sheet" "size" "I" ∈ TBL := ck2_in _ (List.mem_of_getElem? (i := 12) rfl) rfl
theorem wl_X7_16 : Cond.fieldLink RX7 16 "TriggerStages$Triggers" "sheet" "LTriggerStages$Sheet;" ∈ TBL := ck2_in _ (List.mem_of_getElem? (i := 22) rfl) rfl
theorem wl_X0_72 : Cond.fieldLink RX0 72 "TriggerStages$Triggers" "sheet" "LTriggerStages$Sheet;" ∈ TBL := ck2_in _ (List.mem_of_getElem? (i := 23) rfl) rfl
theorem wl_X5_12 : Cond.fieldLink RX5 12 "TriggerStages$State" "tables" "LTriggerStages$Tables;" ∈ TBL := ck3_in _ (List.mem_of_getElem? (i := 4) rfl) rfl
theorem wl_X0_62 : Cond.fieldLink RX0 62 "TriggerStages$State" "tables" "LTriggerStages$Tables;" ∈ TBL := ck3_in _ (List.mem_of_getElem? (i := 5) rfl) rfl
theorem wl_X8_135 : Cond.fieldLink RX8 135 "TriggerStages$State" "tables" "LTriggerStages$Tables;" ∈ TBL := ck3_in _ (List.mem_of_getElem? (i := 6) rfl) rfl
theorem wl_X5_21 : Cond.fieldLink RX5 21 "TriggerStages$State" "triggers" "LTriggerStages$Triggers;" ∈ TBL := ck3_in _ (List.mem_of_getElem? (i := 7) rfl) rfl
theorem wl_X0_69 : Cond.fieldLink RX0 69 "TriggerStages$State" "triggers" "LTriggerStages$Triggers;" ∈ TBL := ck3_in _ (List.mem_of_getElem? (i := 8) rfl) rfl
theorem wl_X8_56 : Cond.fieldLink RX8 56 "TriggerStages$State" "triggers" "LTriggerStages$Triggers;" ∈ TBL := ck3_in _ (List.mem_of_getElem? (i := 9) rfl) rfl
theorem wl_X5_32 : Cond.fieldLink RX5 32 "TriggerStages$State" "journal" "LTriggerStages$Sheet;" ∈ TBL := ck3_in _ (List.mem_of_getElem? (i := 10) rfl) rfl
theorem wl_X8_102 : Cond.fieldLink RX8 102 "TriggerStages$State" "journal" "LTriggerStages$Sheet;" ∈ TBL := ck3_in _ (List.mem_of_getElem? (i := 11) rfl) rfl
theorem wl_X5_36 : Cond.fieldLink RX5 36 "TriggerStages$State" "depth" "I" ∈ TBL := ck3_in _ (List.mem_of_getElem? (i := 12) rfl) rfl
theorem wl_X8_49 : Cond.fieldLink RX8 49 "TriggerStages$State" "depth" "I" ∈ TBL := ck3_in _ (List.mem_of_getElem? (i := 13) rfl) rfl
theorem wl_X5_40 : Cond.fieldLink RX5 40 "TriggerStages$State" "lenient" "I" ∈ TBL := ck3_in _ (List.mem_of_getElem? (i := 14) rfl) rfl
theorem wl_X0_78 : Cond.fieldLink RX0 78 "TriggerStages$State" "lenient" "I" ∈ TBL := ck3_in _ (List.mem_of_getElem? (i := 15) rfl) rfl
theorem wl_X8_53 : Cond.fieldLink RX8 53 "TriggerStages$State" "lenient" "I" ∈ TBL := ck3_in _ (List.mem_of_getElem? (i := 16) rfl) rfl
theorem wl_X1_9 : Cond.fieldLink RX1 9 "TriggerStages$Failure" "reason" "I" ∈ TBL := ck4_in _ (List.mem_of_getElem? (i := 19) rfl) rfl
theorem wl_X8_109 : Cond.fieldLink RX8 109 "TriggerStages$Failure" "reason" "I" ∈ TBL := ck4_in _ (List.mem_of_getElem? (i := 20) rfl) rfl
theorem wl_X1_15 : Cond.fieldLink RX1 15 "TriggerStages$Failure" "table" "I" ∈ TBL := ck4_in _ (List.mem_of_getElem? (i := 21) rfl) rfl
theorem wl_X8_122 : Cond.fieldLink RX8 122 "TriggerStages$Failure" "table" "I" ∈ TBL := ck4_in _ (List.mem_of_getElem? (i := 22) rfl) rfl
theorem wl_X1_18 : Cond.fieldLink RX1 18 "TriggerStages$Failure" "key" "I" ∈ TBL := ck4_in _ (List.mem_of_getElem? (i := 23) rfl) rfl
theorem wl_X8_125 : Cond.fieldLink RX8 125 "TriggerStages$Failure" "key" "I" ∈ TBL := ck4_in _ (List.mem_of_getElem? (i := 24) rfl) rfl
theorem wl_X1_21 : Cond.fieldLink RX1 21 "TriggerStages$Failure" "blamed" "I" ∈ TBL := ck5_in _ (List.mem_of_getElem? (i := 0) rfl) rfl
theorem wl_X8_128 : Cond.fieldLink RX8 128 "TriggerStages$Failure" "blamed" "I" ∈ TBL := ck5_in _ (List.mem_of_getElem? (i := 1) rfl) rfl
theorem wl_X1_24 : Cond.fieldLink RX1 24 "TriggerStages$Failure" "chain" "[I" ∈ TBL := ck5_in _ (List.mem_of_getElem? (i := 2) rfl) rfl
theorem wl_X0_12 : Cond.fieldLink RX0 12 "TriggerStages$Course" "tables" "LTriggerStages$Tables;" ∈ TBL := ck5_in _ (List.mem_of_getElem? (i := 14) rfl) rfl
theorem wl_X8_198 : Cond.fieldLink RX8 198 "TriggerStages$Course" "tables" "LTriggerStages$Tables;" ∈ TBL := ck5_in _ (List.mem_of_getElem? (i := 15) rfl) rfl
theorem wl_X0_23 : Cond.fieldLink RX0 23 "TriggerStages$Course" "journal" "LTriggerStages$Sheet;" ∈ TBL := ck5_in _ (List.mem_of_getElem? (i := 16) rfl) rfl
theorem wl_X8_112 : Cond.fieldLink RX8 112 "TriggerStages$Course" "journal" "LTriggerStages$Sheet;" ∈ TBL := ck5_in _ (List.mem_of_getElem? (i := 17) rfl) rfl
theorem wl_X0_27 : Cond.fieldLink RX0 27 "TriggerStages$Course" "begun" "LTriggerStages$Sheet;" ∈ TBL := ck5_in _ (List.mem_of_getElem? (i := 18) rfl) rfl
theorem wl_X8_113 : Cond.fieldLink RX8 113 "TriggerStages$Course" "begun" "LTriggerStages$Sheet;" ∈ TBL := ck5_in _ (List.mem_of_getElem? (i := 19) rfl) rfl
theorem wl_X0_33 : Cond.fieldLink RX0 33 "TriggerStages$Course" "failure" "LTriggerStages$Failure;" ∈ TBL := ck5_in _ (List.mem_of_getElem? (i := 20) rfl) rfl
theorem wl_X8_89 : Cond.fieldLink RX8 89 "TriggerStages$Course" "failure" "LTriggerStages$Failure;" ∈ TBL := ck5_in _ (List.mem_of_getElem? (i := 21) rfl) rfl
theorem wl_X0_37 : Cond.fieldLink RX0 37 "TriggerStages$Course" "leftOut" "I" ∈ TBL := ck5_in _ (List.mem_of_getElem? (i := 22) rfl) rfl
theorem wl_X8_116 : Cond.fieldLink RX8 116 "TriggerStages$Course" "leftOut" "I" ∈ TBL := ck5_in _ (List.mem_of_getElem? (i := 23) rfl) rfl
theorem wl_X0_43 : Cond.fieldLink RX0 43 "TriggerStages$Course" "triggers" "LTriggerStages$Sheet;" ∈ TBL := ck5_in _ (List.mem_of_getElem? (i := 24) rfl) rfl
theorem wl_X0_46 : Cond.fieldLink RX0 46 "TriggerStages$Course" "waiting" "LTriggerStages$Sheet;" ∈ TBL := ck6_in _ (List.mem_of_getElem? (i := 0) rfl) rfl
theorem wl_X0_49 : Cond.fieldLink RX0 49 "TriggerStages$Course" "isLenient" "Z" ∈ TBL := ck6_in _ (List.mem_of_getElem? (i := 1) rfl) rfl
theorem wl_X0_53 : Cond.fieldLink RX0 53 "TriggerStages$Course" "depthLimit" "I" ∈ TBL := ck6_in _ (List.mem_of_getElem? (i := 2) rfl) rfl
theorem wl_X0_56 : Cond.fieldLink RX0 56 "TriggerStages$Course" "without" "I" ∈ TBL := ck6_in _ (List.mem_of_getElem? (i := 3) rfl) rfl
theorem wl_X0_59 : Cond.fieldLink RX0 59 "TriggerStages$Course" "inMotion" "I" ∈ TBL := ck6_in _ (List.mem_of_getElem? (i := 4) rfl) rfl
theorem wl_X3_9 : Cond.fieldLink RX3 9 "TriggerStages$Pad" "signs" "[C" ∈ TBL := ck7_in _ (List.mem_of_getElem? (i := 11) rfl) rfl
theorem wl_X3_20 : Cond.fieldLink RX3 20 "TriggerStages$Pad" "parsed" "LTriggerStages$Sheet;" ∈ TBL := ck7_in _ (List.mem_of_getElem? (i := 12) rfl) rfl
theorem wl_X3_24 : Cond.fieldLink RX3 24 "TriggerStages$Pad" "length" "I" ∈ TBL := ck7_in _ (List.mem_of_getElem? (i := 13) rfl) rfl
theorem wl_X3_28 : Cond.fieldLink RX3 28 "TriggerStages$Pad" "at" "I" ∈ TBL := ck7_in _ (List.mem_of_getElem? (i := 14) rfl) rfl
theorem wl_X2_11 : Cond.fieldLink RX2 11 "TriggerStages$History" "ring" "[LTriggerStages$State;" ∈ TBL := ck8_in _ (List.mem_of_getElem? (i := 8) rfl) rfl
theorem wl_X2_17 : Cond.fieldLink RX2 17 "TriggerStages$History" "oldest" "I" ∈ TBL := ck8_in _ (List.mem_of_getElem? (i := 9) rfl) rfl
theorem wl_X2_21 : Cond.fieldLink RX2 21 "TriggerStages$History" "size" "I" ∈ TBL := ck8_in _ (List.mem_of_getElem? (i := 10) rfl) rfl
theorem wl_X8_10 : Cond.fieldLink RX8 10 "TriggerStages" "now" "LTriggerStages$State;" ∈ TBL := ck8_in _ (List.mem_of_getElem? (i := 18) rfl) rfl
theorem wl_X8_19 : Cond.fieldLink RX8 19 "TriggerStages" "course" "LTriggerStages$Course;" ∈ TBL := ck8_in _ (List.mem_of_getElem? (i := 19) rfl) rfl
theorem wl_X8_26 : Cond.fieldLink RX8 26 "TriggerStages" "pad" "LTriggerStages$Pad;" ∈ TBL := ck8_in _ (List.mem_of_getElem? (i := 20) rfl) rfl
theorem wl_X8_33 : Cond.fieldLink RX8 33 "TriggerStages" "history" "LTriggerStages$History;" ∈ TBL := ck8_in _ (List.mem_of_getElem? (i := 21) rfl) rfl
theorem wl_X8_37 : Cond.fieldLink RX8 37 "TriggerStages" "slots" "[LTriggerStages$State;" ∈ TBL := ck8_in _ (List.mem_of_getElem? (i := 22) rfl) rfl
theorem wl_X9_90 : Cond.fieldLink RX9 90 "TriggerStagesModel" "thrown" "I" ∈ TBL := ck31_in _ (List.mem_of_getElem? (i := 5) rfl) rfl
theorem wl_X9_7 : Cond.fieldLink RX9 7 "TriggerStagesModel" "s" "[I" ∈ TBL := ck31_in _ (List.mem_of_getElem? (i := 6) rfl) rfl
theorem wl_X9_13 : Cond.fieldLink RX9 13 "TriggerStagesModel" "aside" "[I" ∈ TBL := ck31_in _ (List.mem_of_getElem? (i := 7) rfl) rfl
theorem wl_X9_16 : Cond.fieldLink RX9 16 "TriggerStagesModel" "undos" "[I" ∈ TBL := ck31_in _ (List.mem_of_getElem? (i := 8) rfl) rfl
theorem wl_X9_97 : Cond.fieldLink RX9 97 "TriggerStagesModel" "undoMany" "I" ∈ TBL := ck31_in _ (List.mem_of_getElem? (i := 9) rfl) rfl
theorem wl_X9_19 : Cond.fieldLink RX9 19 "TriggerStagesModel" "slots" "[I" ∈ TBL := ck31_in _ (List.mem_of_getElem? (i := 10) rfl) rfl
theorem wl_X9_22 : Cond.fieldLink RX9 22 "TriggerStagesModel" "hasSlot" "[Z" ∈ TBL := ck31_in _ (List.mem_of_getElem? (i := 11) rfl) rfl
theorem wl_X9_26 : Cond.fieldLink RX9 26 "TriggerStagesModel" "pad" "[I" ∈ TBL := ck31_in _ (List.mem_of_getElem? (i := 12) rfl) rfl
theorem wl_X9_231 : Cond.fieldLink RX9 231 "TriggerStagesModel" "length" "I" ∈ TBL := ck31_in _ (List.mem_of_getElem? (i := 13) rfl) rfl
theorem wl_X9_114 : Cond.fieldLink RX9 114 "TriggerStagesModel" "reason" "I" ∈ TBL := ck31_in _ (List.mem_of_getElem? (i := 14) rfl) rfl
theorem wl_X9_130 : Cond.fieldLink RX9 130 "TriggerStagesModel" "begun" "I" ∈ TBL := ck31_in _ (List.mem_of_getElem? (i := 15) rfl) rfl
theorem wl_X9_140 : Cond.fieldLink RX9 140 "TriggerStagesModel" "left" "I" ∈ TBL := ck31_in _ (List.mem_of_getElem? (i := 16) rfl) rfl
theorem wl_X9_133 : Cond.fieldLink RX9 133 "TriggerStagesModel" "deepest" "I" ∈ TBL := ck31_in _ (List.mem_of_getElem? (i := 17) rfl) rfl
theorem wl_X9_161 : Cond.fieldLink RX9 161 "TriggerStagesModel" "done" "I" ∈ TBL := ck31_in _ (List.mem_of_getElem? (i := 18) rfl) rfl
theorem wl_X9_117 : Cond.fieldLink RX9 117 "TriggerStagesModel" "badTable" "I" ∈ TBL := ck31_in _ (List.mem_of_getElem? (i := 19) rfl) rfl
theorem wl_X9_120 : Cond.fieldLink RX9 120 "TriggerStagesModel" "badKey" "I" ∈ TBL := ck31_in _ (List.mem_of_getElem? (i := 20) rfl) rfl
theorem wl_X9_123 : Cond.fieldLink RX9 123 "TriggerStagesModel" "chainMany" "I" ∈ TBL := ck31_in _ (List.mem_of_getElem? (i := 21) rfl) rfl
theorem wl_X9_29 : Cond.fieldLink RX9 29 "TriggerStagesModel" "chain" "[I" ∈ TBL := ck31_in _ (List.mem_of_getElem? (i := 22) rfl) rfl
theorem wl_X9_32 : Cond.fieldLink RX9 32 "TriggerStagesModel" "without" "I" ∈ TBL := ck31_in _ (List.mem_of_getElem? (i := 23) rfl) rfl
theorem wl_X9_180 : Cond.fieldLink RX9 180 "TriggerStagesModel" "low" "I" ∈ TBL := ck31_in _ (List.mem_of_getElem? (i := 24) rfl) rfl
theorem wl_X9_143 : Cond.fieldLink RX9 143 "TriggerStagesModel" "top" "I" ∈ TBL := ck32_in _ (List.mem_of_getElem? (i := 0) rfl) rfl
theorem wl_X9_36 : Cond.fieldLink RX9 36 "TriggerStagesModel" "path" "[I" ∈ TBL := ck32_in _ (List.mem_of_getElem? (i := 1) rfl) rfl
theorem wl_X9_39 : Cond.fieldLink RX9 39 "TriggerStagesModel" "kindAt" "[I" ∈ TBL := ck32_in _ (List.mem_of_getElem? (i := 2) rfl) rfl
theorem wl_X9_42 : Cond.fieldLink RX9 42 "TriggerStagesModel" "tableAt" "[I" ∈ TBL := ck32_in _ (List.mem_of_getElem? (i := 3) rfl) rfl
theorem wl_X9_45 : Cond.fieldLink RX9 45 "TriggerStagesModel" "keyAt" "[I" ∈ TBL := ck32_in _ (List.mem_of_getElem? (i := 4) rfl) rfl
theorem wl_X9_48 : Cond.fieldLink RX9 48 "TriggerStagesModel" "numberAt" "[I" ∈ TBL := ck32_in _ (List.mem_of_getElem? (i := 5) rfl) rfl
theorem wl_X9_51 : Cond.fieldLink RX9 51 "TriggerStagesModel" "weightAt" "[I" ∈ TBL := ck32_in _ (List.mem_of_getElem? (i := 6) rfl) rfl
theorem wl_X9_54 : Cond.fieldLink RX9 54 "TriggerStagesModel" "stageAt" "[I" ∈ TBL := ck32_in _ (List.mem_of_getElem? (i := 7) rfl) rfl
theorem wl_X9_57 : Cond.fieldLink RX9 57 "TriggerStagesModel" "nextAt" "[I" ∈ TBL := ck32_in _ (List.mem_of_getElem? (i := 8) rfl) rfl
theorem wl_X9_60 : Cond.fieldLink RX9 60 "TriggerStagesModel" "moves" "[Z" ∈ TBL := ck32_in _ (List.mem_of_getElem? (i := 9) rfl) rfl
theorem wl_X9_164 : Cond.fieldLink RX9 164 "TriggerStagesModel" "waits" "I" ∈ TBL := ck32_in _ (List.mem_of_getElem? (i := 10) rfl) rfl
theorem wl_X9_63 : Cond.fieldLink RX9 63 "TriggerStagesModel" "waitTrigger" "[I" ∈ TBL := ck32_in _ (List.mem_of_getElem? (i := 11) rfl) rfl
theorem wl_X9_66 : Cond.fieldLink RX9 66 "TriggerStagesModel" "waitTable" "[I" ∈ TBL := ck32_in _ (List.mem_of_getElem? (i := 12) rfl) rfl
theorem wl_X9_69 : Cond.fieldLink RX9 69 "TriggerStagesModel" "waitKey" "[I" ∈ TBL := ck32_in _ (List.mem_of_getElem? (i := 13) rfl) rfl
theorem wl_X9_72 : Cond.fieldLink RX9 72 "TriggerStagesModel" "waitDepth" "[I" ∈ TBL := ck32_in _ (List.mem_of_getElem? (i := 14) rfl) rfl
theorem wl_X9_75 : Cond.fieldLink RX9 75 "TriggerStagesModel" "waitChain" "[I" ∈ TBL := ck32_in _ (List.mem_of_getElem? (i := 15) rfl) rfl
theorem wl_X9_78 : Cond.fieldLink RX9 78 "TriggerStagesModel" "fresh" "[I" ∈ TBL := ck32_in _ (List.mem_of_getElem? (i := 16) rfl) rfl
theorem wl_X9_81 : Cond.fieldLink RX9 81 "TriggerStagesModel" "sets" "[I" ∈ TBL := ck32_in _ (List.mem_of_getElem? (i := 17) rfl) rfl
theorem wl_X9_84 : Cond.fieldLink RX9 84 "TriggerStagesModel" "far" "[I" ∈ TBL := ck32_in _ (List.mem_of_getElem? (i := 18) rfl) rfl
theorem wl_X9_236 : Cond.fieldLink RX9 236 "TriggerStagesModel" "at" "I" ∈ TBL := ck32_in _ (List.mem_of_getElem? (i := 19) rfl) rfl
theorem wl_X9_239 : Cond.fieldLink RX9 239 "TriggerStagesModel" "isWell" "Z" ∈ TBL := ck32_in _ (List.mem_of_getElem? (i := 20) rfl) rfl
theorem wl_X9_87 : Cond.fieldLink RX9 87 "TriggerStagesModel" "told" "[I" ∈ TBL := ck32_in _ (List.mem_of_getElem? (i := 21) rfl) rfl
theorem wl_X9_252 : Cond.fieldLink RX9 252 "TriggerStagesModel" "toldMany" "I" ∈ TBL := ck32_in _ (List.mem_of_getElem? (i := 22) rfl) rfl
theorem wl_L_9 : Cond.methodLink RL 9 yX8_init ∈ TBL := ck0_in _ (List.mem_of_getElem? (i := 15) rfl) rfl
theorem wl_X8_1 : Cond.methodLink RX8 1 objectInit ∈ TBL := ck0_in _ (List.mem_of_getElem? (i := 18) rfl) rfl
theorem wl_X8_9 : Cond.methodLink RX8 9 yX5_init ∈ TBL := ck0_in _ (List.mem_of_getElem? (i := 23) rfl) rfl
theorem wl_X5_3 : Cond.methodLink RX5 3 objectInit ∈ TBL := ck1_in _ (List.mem_of_getElem? (i := 1) rfl) rfl
theorem wl_X5_11 : Cond.methodLink RX5 11 yX6_init ∈ TBL := ck1_in _ (List.mem_of_getElem? (i := 4) rfl) rfl
theorem wl_X6_3 : Cond.methodLink RX6 3 objectInit ∈ TBL := ck1_in _ (List.mem_of_getElem? (i := 7) rfl) rfl
theorem wl_X5_20 : Cond.methodLink RX5 20 yX7_init ∈ TBL := ck1_in _ (List.mem_of_getElem? (i := 21) rfl) rfl
theorem wl_X7_3 : Cond.methodLink RX7 3 objectInit ∈ TBL := ck1_in _ (List.mem_of_getElem? (i := 24) rfl) rfl
theorem wl_X7_13 : Cond.methodLink RX7 13 yX4_init ∈ TBL := ck2_in _ (List.mem_of_getElem? (i := 2) rfl) rfl
theorem wl_X4_3 : Cond.methodLink RX4 3 objectInit ∈ TBL := ck2_in _ (List.mem_of_getElem? (i := 5) rfl) rfl
theorem wl_X4_15 : Cond.methodLink RX4 15 Lib.Math.max.name ∈ TBL := ck2_in _ (List.mem_of_getElem? (i := 6) rfl) rfl
theorem wl_X5_29 : Cond.methodLink RX5 29 yX4_init ∈ TBL := ck3_in _ (List.mem_of_getElem? (i := 3) rfl) rfl
theorem wl_X8_18 : Cond.methodLink RX8 18 yX0_init ∈ TBL := ck4_in _ (List.mem_of_getElem? (i := 5) rfl) rfl
theorem wl_X0_3 : Cond.methodLink RX0 3 objectInit ∈ TBL := ck4_in _ (List.mem_of_getElem? (i := 8) rfl) rfl
theorem wl_X0_11 : Cond.methodLink RX0 11 yX6_init ∈ TBL := ck4_in _ (List.mem_of_getElem? (i := 10) rfl) rfl
theorem wl_X0_20 : Cond.methodLink RX0 20 yX4_init ∈ TBL := ck4_in _ (List.mem_of_getElem? (i := 12) rfl) rfl
theorem wl_X0_32 : Cond.methodLink RX0 32 yX1_init ∈ TBL := ck4_in _ (List.mem_of_getElem? (i := 15) rfl) rfl
theorem wl_X1_3 : Cond.methodLink RX1 3 objectInit ∈ TBL := ck4_in _ (List.mem_of_getElem? (i := 18) rfl) rfl
theorem wl_X8_25 : Cond.methodLink RX8 25 yX3_init ∈ TBL := ck7_in _ (List.mem_of_getElem? (i := 5) rfl) rfl
theorem wl_X3_3 : Cond.methodLink RX3 3 objectInit ∈ TBL := ck7_in _ (List.mem_of_getElem? (i := 8) rfl) rfl
theorem wl_X3_17 : Cond.methodLink RX3 17 yX4_init ∈ TBL := ck7_in _ (List.mem_of_getElem? (i := 10) rfl) rfl
theorem wl_X8_32 : Cond.methodLink RX8 32 yX2_init ∈ TBL := ck8_in _ (List.mem_of_getElem? (i := 2) rfl) rfl
theorem wl_X2_3 : Cond.methodLink RX2 3 objectInit ∈ TBL := ck8_in _ (List.mem_of_getElem? (i := 5) rfl) rfl
theorem wl_L_13 : Cond.methodLink RL 13 yX8_set ∈ TBL := ck9_in _ (List.mem_of_getElem? (i := 9) rfl) rfl
theorem wl_X8_41 : Cond.methodLink RX8 41 yX8_isWithin ∈ TBL := ck9_in _ (List.mem_of_getElem? (i := 13) rfl) rfl
theorem wl_X8_45 : Cond.methodLink RX8 45 yX2_keep ∈ TBL := ck10_in _ (List.mem_of_getElem? (i := 1) rfl) rfl
theorem wl_X2_28 : Cond.methodLink RX2 28 yX5_init ∈ TBL := ck12_in _ (List.mem_of_getElem? (i := 0) rfl) rfl
theorem wl_X2_29 : Cond.methodLink RX2 29 yX5_copyFrom ∈ TBL := ck12_in _ (List.mem_of_getElem? (i := 1) rfl) rfl
theorem wl_X5_43 : Cond.methodLink RX5 43 yX6_copyFrom ∈ TBL := ck12_in _ (List.mem_of_getElem? (i := 5) rfl) rfl
theorem wl_X6_21 : Cond.methodLink RX6 21 arraycopyName ∈ TBL := ck12_in _ (List.mem_of_getElem? (i := 9) rfl) rfl
theorem wl_X5_47 : Cond.methodLink RX5 47 yX7_copyFrom ∈ TBL := ck12_in _ (List.mem_of_getElem? (i := 12) rfl) rfl
theorem wl_X7_20 : Cond.methodLink RX7 20 yX4_copyFrom ∈ TBL := ck12_in _ (List.mem_of_getElem? (i := 16) rfl) rfl
theorem wl_X4_31 : Cond.methodLink RX4 31 Lib.Math.min.name ∈ TBL := ck12_in _ (List.mem_of_getElem? (i := 20) rfl) rfl
theorem wl_X4_34 : Cond.methodLink RX4 34 arraycopyName ∈ TBL := ck12_in _ (List.mem_of_getElem? (i := 23) rfl) rfl
theorem wl_X5_50 : Cond.methodLink RX5 50 yX4_copyFrom ∈ TBL := ck12_in _ (List.mem_of_getElem? (i := 24) rfl) rfl
theorem wl_L_18 : Cond.methodLink RL 18 yX8_trigger ∈ TBL := ck13_in _ (List.mem_of_getElem? (i := 0) rfl) rfl
theorem wl_X8_60 : Cond.methodLink RX8 60 yX7_size ∈ TBL := ck13_in _ (List.mem_of_getElem? (i := 4) rfl) rfl
theorem wl_X7_24 : Cond.methodLink RX7 24 yX4_size ∈ TBL := ck13_in _ (List.mem_of_getElem? (i := 8) rfl) rfl
theorem wl_X8_66 : Cond.methodLink RX8 66 yX7_append ∈ TBL := ck13_in _ (List.mem_of_getElem? (i := 12) rfl) rfl
theorem wl_X7_32 : Cond.methodLink RX7 32 yX4_append ∈ TBL := ck13_in _ (List.mem_of_getElem? (i := 16) rfl) rfl
theorem wl_X7_35 : Cond.methodLink RX7 35 yX4_change ∈ TBL := ck13_in _ (List.mem_of_getElem? (i := 20) rfl) rfl
theorem wl_X7_39 : Cond.methodLink RX7 39 yX7_giveDeed ∈ TBL := ck13_in _ (List.mem_of_getElem? (i := 24) rfl) rfl
theorem wl_L_23 : Cond.methodLink RL 23 yX8_deed ∈ TBL := ck14_in _ (List.mem_of_getElem? (i := 3) rfl) rfl
theorem wl_X8_70 : Cond.methodLink RX8 70 yX7_get ∈ TBL := ck14_in _ (List.mem_of_getElem? (i := 7) rfl) rfl
theorem wl_X7_28 : Cond.methodLink RX7 28 yX4_get ∈ TBL := ck14_in _ (List.mem_of_getElem? (i := 11) rfl) rfl
theorem wl_X8_74 : Cond.methodLink RX8 74 yX7_giveDeed ∈ TBL := ck14_in _ (List.mem_of_getElem? (i := 15) rfl) rfl
theorem wl_L_28 : Cond.methodLink RL 28 yX8_dropTrigger ∈ TBL := ck14_in _ (List.mem_of_getElem? (i := 16) rfl) rfl
theorem wl_X8_78 : Cond.methodLink RX8 78 yX7_remove ∈ TBL := ck14_in _ (List.mem_of_getElem? (i := 20) rfl) rfl
theorem wl_X7_43 : Cond.methodLink RX7 43 yX4_remove ∈ TBL := ck14_in _ (List.mem_of_getElem? (i := 24) rfl) rfl
theorem wl_L_33 : Cond.methodLink RL 33 yX8_state ∈ TBL := ck15_in _ (List.mem_of_getElem? (i := 3) rfl) rfl
theorem wl_X8_82 : Cond.methodLink RX8 82 yX8_errorOf ∈ TBL := ck15_in _ (List.mem_of_getElem? (i := 7) rfl) rfl
theorem wl_X8_85 : Cond.methodLink RX8 85 yX0_run ∈ TBL := ck15_in _ (List.mem_of_getElem? (i := 10) rfl) rfl
theorem wl_X0_65 : Cond.methodLink RX0 65 yX6_copyFrom ∈ TBL := ck15_in _ (List.mem_of_getElem? (i := 14) rfl) rfl
theorem wl_X0_75 : Cond.methodLink RX0 75 yX4_copyFrom ∈ TBL := ck15_in _ (List.mem_of_getElem? (i := 15) rfl) rfl
theorem wl_X0_81 : Cond.methodLink RX0 81 yX4_clear ∈ TBL := ck15_in _ (List.mem_of_getElem? (i := 16) rfl) rfl
theorem wl_X0_84 : Cond.methodLink RX0 84 yX1_clear ∈ TBL := ck15_in _ (List.mem_of_getElem? (i := 20) rfl) rfl
theorem wl_X0_85 : Cond.methodLink RX0 85 yX0_carry ∈ TBL := ck15_in _ (List.mem_of_getElem? (i := 24) rfl) rfl
theorem wl_X0_106 : Cond.methodLink RX0 106 yX1_tell ∈ TBL := ck16_in _ (List.mem_of_getElem? (i := 3) rfl) rfl
theorem wl_X1_34 : Cond.methodLink RX1 34 yX4_get ∈ TBL := ck16_in _ (List.mem_of_getElem? (i := 7) rfl) rfl
theorem wl_X1_40 : Cond.methodLink RX1 40 Lib.Math.min.name ∈ TBL := ck16_in _ (List.mem_of_getElem? (i := 8) rfl) rfl
theorem wl_X0_89 : Cond.methodLink RX0 89 yX4_size ∈ TBL := ck16_in _ (List.mem_of_getElem? (i := 9) rfl) rfl
theorem wl_X0_110 : Cond.methodLink RX0 110 yX6_weightOf ∈ TBL := ck16_in _ (List.mem_of_getElem? (i := 10) rfl) rfl
theorem wl_X6_39 : Cond.methodLink RX6 39 yX6_placeOf ∈ TBL := ck16_in _ (List.mem_of_getElem? (i := 14) rfl) rfl
theorem wl_X6_35 : Cond.methodLink RX6 35 yX6_sizeOf ∈ TBL := ck16_in _ (List.mem_of_getElem? (i := 18) rfl) rfl
theorem wl_X6_31 : Cond.methodLink RX6 31 yX6_numberAt ∈ TBL := ck18_in _ (List.mem_of_getElem? (i := 0) rfl) rfl
theorem wl_X0_114 : Cond.methodLink RX0 114 yX0_begin ∈ TBL := ck18_in _ (List.mem_of_getElem? (i := 4) rfl) rfl
theorem wl_X0_136 : Cond.methodLink RX0 136 yX4_append ∈ TBL := ck18_in _ (List.mem_of_getElem? (i := 8) rfl) rfl
theorem wl_X0_139 : Cond.methodLink RX0 139 yX4_change ∈ TBL := ck18_in _ (List.mem_of_getElem? (i := 9) rfl) rfl
theorem wl_X0_118 : Cond.methodLink RX0 118 yX0_isLeftOut ∈ TBL := ck18_in _ (List.mem_of_getElem? (i := 10) rfl) rfl
theorem wl_X0_122 : Cond.methodLink RX0 122 yX0_doStage ∈ TBL := ck18_in _ (List.mem_of_getElem? (i := 14) rfl) rfl
theorem wl_X0_143 : Cond.methodLink RX0 143 yX0_isSetOff ∈ TBL := ck18_in _ (List.mem_of_getElem? (i := 18) rfl) rfl
theorem wl_X0_93 : Cond.methodLink RX0 93 yX4_get ∈ TBL := ck18_in _ (List.mem_of_getElem? (i := 22) rfl) rfl
theorem wl_X0_97 : Cond.methodLink RX0 97 yX0_doDeed ∈ TBL := ck18_in _ (List.mem_of_getElem? (i := 23) rfl) rfl
theorem wl_X0_125 : Cond.methodLink RX0 125 yX6_apply ∈ TBL := ck19_in _ (List.mem_of_getElem? (i := 2) rfl) rfl
theorem wl_X6_42 : Cond.methodLink RX6 42 yX6_insert ∈ TBL := ck19_in _ (List.mem_of_getElem? (i := 6) rfl) rfl
theorem wl_X6_46 : Cond.methodLink RX6 46 yX6_renumber ∈ TBL := ck19_in _ (List.mem_of_getElem? (i := 10) rfl) rfl
theorem wl_X6_49 : Cond.methodLink RX6 49 yX6_remove ∈ TBL := ck19_in _ (List.mem_of_getElem? (i := 14) rfl) rfl
theorem wl_X0_129 : Cond.methodLink RX0 129 yX0_noteDone ∈ TBL := ck19_in _ (List.mem_of_getElem? (i := 18) rfl) rfl
theorem wl_X0_133 : Cond.methodLink RX0 133 yX0_queueLastStage ∈ TBL := ck19_in _ (List.mem_of_getElem? (i := 22) rfl) rfl
theorem wl_X8_93 : Cond.methodLink RX8 93 yX1_isThere ∈ TBL := ck20_in _ (List.mem_of_getElem? (i := 1) rfl) rfl
theorem wl_X8_99 : Cond.methodLink RX8 99 yX8_takeOver ∈ TBL := ck20_in _ (List.mem_of_getElem? (i := 5) rfl) rfl
theorem wl_X8_199 : Cond.methodLink RX8 199 yX6_copyFrom ∈ TBL := ck20_in _ (List.mem_of_getElem? (i := 9) rfl) rfl
theorem wl_X8_202 : Cond.methodLink RX8 202 yX4_copyFrom ∈ TBL := ck20_in _ (List.mem_of_getElem? (i := 10) rfl) rfl
theorem wl_X8_106 : Cond.methodLink RX8 106 yX4_size ∈ TBL := ck20_in _ (List.mem_of_getElem? (i := 11) rfl) rfl
theorem wl_L_37 : Cond.methodLink RL 37 yX8_tried ∈ TBL := ck20_in _ (List.mem_of_getElem? (i := 12) rfl) rfl
theorem wl_X8_119 : Cond.methodLink RX8 119 yX0_greatestDepth ∈ TBL := ck20_in _ (List.mem_of_getElem? (i := 16) rfl) rfl
theorem wl_X0_101 : Cond.methodLink RX0 101 Lib.Math.max.name ∈ TBL := ck20_in _ (List.mem_of_getElem? (i := 20) rfl) rfl
theorem wl_X8_131 : Cond.methodLink RX8 131 yX1_blamedAt ∈ TBL := ck20_in _ (List.mem_of_getElem? (i := 21) rfl) rfl
theorem wl_L_41 : Cond.methodLink RL 41 yX8_row ∈ TBL := ck22_in _ (List.mem_of_getElem? (i := 0) rfl) rfl
theorem wl_X8_139 : Cond.methodLink RX8 139 yX6_sizeOf ∈ TBL := ck22_in _ (List.mem_of_getElem? (i := 4) rfl) rfl
theorem wl_X8_144 : Cond.methodLink RX8 144 yX6_keyAt ∈ TBL := ck22_in _ (List.mem_of_getElem? (i := 5) rfl) rfl
theorem wl_X8_147 : Cond.methodLink RX8 147 yX6_numberAt ∈ TBL := ck22_in _ (List.mem_of_getElem? (i := 9) rfl) rfl
theorem wl_L_46 : Cond.methodLink RL 46 yX8_value ∈ TBL := ck22_in _ (List.mem_of_getElem? (i := 10) rfl) rfl
theorem wl_X8_150 : Cond.methodLink RX8 150 yX6_placeOf ∈ TBL := ck22_in _ (List.mem_of_getElem? (i := 14) rfl) rfl
theorem wl_L_50 : Cond.methodLink RL 50 yX8_ofTrigger ∈ TBL := ck22_in _ (List.mem_of_getElem? (i := 15) rfl) rfl
theorem wl_X8_153 : Cond.methodLink RX8 153 yX7_followers ∈ TBL := ck22_in _ (List.mem_of_getElem? (i := 19) rfl) rfl
theorem wl_X8_156 : Cond.methodLink RX8 156 yX7_couldSetOffItself ∈ TBL := ck22_in _ (List.mem_of_getElem? (i := 23) rfl) rfl
theorem wl_X7_47 : Cond.methodLink RX7 47 yX7_followers ∈ TBL := ck23_in _ (List.mem_of_getElem? (i := 2) rfl) rfl
theorem wl_X7_51 : Cond.methodLink RX7 51 yX7_followersOfAll ∈ TBL := ck23_in _ (List.mem_of_getElem? (i := 3) rfl) rfl
theorem wl_X7_54 : Cond.methodLink RX7 54 yX7_isIn ∈ TBL := ck23_in _ (List.mem_of_getElem? (i := 7) rfl) rfl
theorem wl_L_54 : Cond.methodLink RL 54 yX8_journal ∈ TBL := ck24_in _ (List.mem_of_getElem? (i := 0) rfl) rfl
theorem wl_X8_160 : Cond.methodLink RX8 160 yX4_get ∈ TBL := ck24_in _ (List.mem_of_getElem? (i := 4) rfl) rfl
theorem wl_L_58 : Cond.methodLink RL 58 yX8_count ∈ TBL := ck24_in _ (List.mem_of_getElem? (i := 5) rfl) rfl
theorem wl_X8_161 : Cond.methodLink RX8 161 yX6_sumOfNumbers ∈ TBL := ck24_in _ (List.mem_of_getElem? (i := 9) rfl) rfl
theorem wl_X8_164 : Cond.methodLink RX8 164 yX7_thoseThatCouldSetOffThemselves ∈ TBL := ck24_in _ (List.mem_of_getElem? (i := 13) rfl) rfl
theorem wl_X7_58 : Cond.methodLink RX7 58 yX7_couldSetOffItself ∈ TBL := ck24_in _ (List.mem_of_getElem? (i := 17) rfl) rfl
theorem wl_X8_167 : Cond.methodLink RX8 167 yX3_length ∈ TBL := ck24_in _ (List.mem_of_getElem? (i := 18) rfl) rfl
theorem wl_X8_170 : Cond.methodLink RX8 170 yX2_size ∈ TBL := ck24_in _ (List.mem_of_getElem? (i := 22) rfl) rfl
theorem wl_L_62 : Cond.methodLink RL 62 yX8_culprits ∈ TBL := ck25_in _ (List.mem_of_getElem? (i := 1) rfl) rfl
theorem wl_L_66 : Cond.methodLink RL 66 yX8_leastDepth ∈ TBL := ck25_in _ (List.mem_of_getElem? (i := 5) rfl) rfl
theorem wl_L_72 : Cond.methodLink RL 72 yX8_put ∈ TBL := ck25_in _ (List.mem_of_getElem? (i := 9) rfl) rfl
theorem wl_X8_171 : Cond.methodLink RX8 171 yX3_signsIn ∈ TBL := ck25_in _ (List.mem_of_getElem? (i := 13) rfl) rfl
theorem wl_X8_175 : Cond.methodLink RX8 175 yX3_append ∈ TBL := ck25_in _ (List.mem_of_getElem? (i := 17) rfl) rfl
theorem wl_L_77 : Cond.methodLink RL 77 yX8_wipe ∈ TBL := ck25_in _ (List.mem_of_getElem? (i := 21) rfl) rfl
theorem wl_X8_178 : Cond.methodLink RX8 178 yX3_clear ∈ TBL := ck26_in _ (List.mem_of_getElem? (i := 0) rfl) rfl
theorem wl_L_82 : Cond.methodLink RL 82 yX8_fault ∈ TBL := ck26_in _ (List.mem_of_getElem? (i := 4) rfl) rfl
theorem wl_X8_181 : Cond.methodLink RX8 181 yX3_read ∈ TBL := ck26_in _ (List.mem_of_getElem? (i := 8) rfl) rfl
theorem wl_X3_41 : Cond.methodLink RX3 41 yX4_clear ∈ TBL := ck26_in _ (List.mem_of_getElem? (i := 12) rfl) rfl
theorem wl_X3_44 : Cond.methodLink RX3 44 yX3_readStatement ∈ TBL := ck26_in _ (List.mem_of_getElem? (i := 13) rfl) rfl
theorem wl_X3_52 : Cond.methodLink RX3 52 yX3_readKind ∈ TBL := ck26_in _ (List.mem_of_getElem? (i := 17) rfl) rfl
theorem wl_X3_48 : Cond.methodLink RX3 48 yX3_accepts ∈ TBL := ck26_in _ (List.mem_of_getElem? (i := 21) rfl) rfl
theorem wl_X3_70 : Cond.methodLink RX3 70 yX3_next ∈ TBL := ck27_in _ (List.mem_of_getElem? (i := 0) rfl) rfl
theorem wl_X3_55 : Cond.methodLink RX3 55 yX3_readNumber ∈ TBL := ck29_in _ (List.mem_of_getElem? (i := 0) rfl) rfl
theorem wl_X3_63 : Cond.methodLink RX3 63 yX3_digit ∈ TBL := ck29_in _ (List.mem_of_getElem? (i := 4) rfl) rfl
theorem wl_X3_59 : Cond.methodLink RX3 59 yX3_keep ∈ TBL := ck29_in _ (List.mem_of_getElem? (i := 8) rfl) rfl
theorem wl_X3_74 : Cond.methodLink RX3 74 yX4_append ∈ TBL := ck29_in _ (List.mem_of_getElem? (i := 12) rfl) rfl
theorem wl_X3_77 : Cond.methodLink RX3 77 yX4_change ∈ TBL := ck29_in _ (List.mem_of_getElem? (i := 13) rfl) rfl
theorem wl_L_86 : Cond.methodLink RL 86 yX8_carryOut ∈ TBL := ck29_in _ (List.mem_of_getElem? (i := 14) rfl) rfl
theorem wl_X8_184 : Cond.methodLink RX8 184 yX3_statements ∈ TBL := ck29_in _ (List.mem_of_getElem? (i := 18) rfl) rfl
theorem wl_X3_33 : Cond.methodLink RX3 33 yX4_size ∈ TBL := ck29_in _ (List.mem_of_getElem? (i := 22) rfl) rfl
theorem wl_X8_187 : Cond.methodLink RX8 187 yX3_get ∈ TBL := ck29_in _ (List.mem_of_getElem? (i := 23) rfl) rfl
theorem wl_X3_37 : Cond.methodLink RX3 37 yX4_get ∈ TBL := ck30_in _ (List.mem_of_getElem? (i := 2) rfl) rfl
theorem wl_L_90 : Cond.methodLink RL 90 yX8_undo ∈ TBL := ck30_in _ (List.mem_of_getElem? (i := 3) rfl) rfl
theorem wl_X8_188 : Cond.methodLink RX8 188 yX2_takeBack ∈ TBL := ck30_in _ (List.mem_of_getElem? (i := 7) rfl) rfl
theorem wl_L_94 : Cond.methodLink RL 94 yX8_save ∈ TBL := ck30_in _ (List.mem_of_getElem? (i := 11) rfl) rfl
theorem wl_X8_192 : Cond.methodLink RX8 192 yX5_copyFrom ∈ TBL := ck30_in _ (List.mem_of_getElem? (i := 15) rfl) rfl
theorem wl_X8_195 : Cond.methodLink RX8 195 yX6_rows ∈ TBL := ck30_in _ (List.mem_of_getElem? (i := 16) rfl) rfl
theorem wl_L_98 : Cond.methodLink RL 98 yX8_restore ∈ TBL := ck30_in _ (List.mem_of_getElem? (i := 20) rfl) rfl
theorem wl_L_12 : Cond.methodLink RL 12 yX9_init ∈ TBL := ck31_in _ (List.mem_of_getElem? (i := 1) rfl) rfl
theorem wl_X9_1 : Cond.methodLink RX9 1 objectInit ∈ TBL := ck31_in _ (List.mem_of_getElem? (i := 4) rfl) rfl
theorem wl_L_17 : Cond.methodLink RL 17 yX9_set ∈ TBL := ck37_in _ (List.mem_of_getElem? (i := 1) rfl) rfl
theorem wl_X9_93 : Cond.methodLink RX9 93 yX9_in ∈ TBL := ck37_in _ (List.mem_of_getElem? (i := 5) rfl) rfl
theorem wl_X9_205 : Cond.methodLink RX9 205 yX9_records ∈ TBL := ck37_in _ (List.mem_of_getElem? (i := 8) rfl) rfl
theorem wl_L_22 : Cond.methodLink RL 22 yX9_trigger ∈ TBL := ck37_in _ (List.mem_of_getElem? (i := 12) rfl) rfl
theorem wl_X9_201 : Cond.methodLink RX9 201 yX9_isTable ∈ TBL := ck37_in _ (List.mem_of_getElem? (i := 16) rfl) rfl
theorem wl_L_27 : Cond.methodLink RL 27 yX9_deed ∈ TBL := ck37_in _ (List.mem_of_getElem? (i := 19) rfl) rfl
theorem wl_X9_208 : Cond.methodLink RX9 208 yX9_isTrigger ∈ TBL := ck37_in _ (List.mem_of_getElem? (i := 23) rfl) rfl
theorem wl_X9_146 : Cond.methodLink RX9 146 yX9_of ∈ TBL := ck38_in _ (List.mem_of_getElem? (i := 2) rfl) rfl
theorem wl_L_32 : Cond.methodLink RL 32 yX9_dropTrigger ∈ TBL := ck38_in _ (List.mem_of_getElem? (i := 6) rfl) rfl
theorem wl_L_36 : Cond.methodLink RL 36 yX9_state ∈ TBL := ck38_in _ (List.mem_of_getElem? (i := 10) rfl) rfl
theorem wl_X9_211 : Cond.methodLink RX9 211 yX9_refuses ∈ TBL := ck38_in _ (List.mem_of_getElem? (i := 14) rfl) rfl
theorem wl_X9_215 : Cond.methodLink RX9 215 yX9_tries ∈ TBL := ck38_in _ (List.mem_of_getElem? (i := 17) rfl) rfl
theorem wl_X9_189 : Cond.methodLink RX9 189 yX9_putAside ∈ TBL := ck38_in _ (List.mem_of_getElem? (i := 21) rfl) rfl
theorem wl_X9_192 : Cond.methodLink RX9 192 yX9_carries ∈ TBL := ck39_in _ (List.mem_of_getElem? (i := 0) rfl) rfl
theorem wl_X9_149 : Cond.methodLink RX9 149 yX9_begins ∈ TBL := ck39_in _ (List.mem_of_getElem? (i := 4) rfl) rfl
theorem wl_X9_126 : Cond.methodLink RX9 126 yX9_fails ∈ TBL := ck39_in _ (List.mem_of_getElem? (i := 8) rfl) rfl
theorem wl_X9_136 : Cond.methodLink RX9 136 yX9_isPossible ∈ TBL := ck39_in _ (List.mem_of_getElem? (i := 12) rfl) rfl
theorem wl_X9_111 : Cond.methodLink RX9 111 yX9_numberOf ∈ TBL := ck39_in _ (List.mem_of_getElem? (i := 16) rfl) rfl
theorem wl_X9_108 : Cond.methodLink RX9 108 yX9_placeOf ∈ TBL := ck39_in _ (List.mem_of_getElem? (i := 20) rfl) rfl
theorem wl_X9_100 : Cond.methodLink RX9 100 yX9_rows ∈ TBL := ck39_in _ (List.mem_of_getElem? (i := 24) rfl) rfl
theorem wl_X9_104 : Cond.methodLink RX9 104 yX9_rowAt ∈ TBL := ck40_in _ (List.mem_of_getElem? (i := 3) rfl) rfl
theorem wl_X9_186 : Cond.methodLink RX9 186 yX9_clears ∈ TBL := ck40_in _ (List.mem_of_getElem? (i := 6) rfl) rfl
theorem wl_X9_183 : Cond.methodLink RX9 183 yX9_goesOn ∈ TBL := ck40_in _ (List.mem_of_getElem? (i := 10) rfl) rfl
theorem wl_X9_167 : Cond.methodLink RX9 167 yX9_isSetOff ∈ TBL := ck40_in _ (List.mem_of_getElem? (i := 14) rfl) rfl
theorem wl_X9_170 : Cond.methodLink RX9 170 yX9_waitsFor ∈ TBL := ck40_in _ (List.mem_of_getElem? (i := 18) rfl) rfl
theorem wl_X9_173 : Cond.methodLink RX9 173 yX9_does ∈ TBL := ck40_in _ (List.mem_of_getElem? (i := 22) rfl) rfl
theorem wl_X9_176 : Cond.methodLink RX9 176 yX9_isDone ∈ TBL := ck41_in _ (List.mem_of_getElem? (i := 1) rfl) rfl
theorem wl_X9_153 : Cond.methodLink RX9 153 yX9_lays ∈ TBL := ck41_in _ (List.mem_of_getElem? (i := 5) rfl) rfl
theorem wl_X9_157 : Cond.methodLink RX9 157 yX9_drops ∈ TBL := ck41_in _ (List.mem_of_getElem? (i := 9) rfl) rfl
theorem wl_X9_195 : Cond.methodLink RX9 195 yX9_takeBack ∈ TBL := ck41_in _ (List.mem_of_getElem? (i := 13) rfl) rfl
theorem wl_X9_218 : Cond.methodLink RX9 218 yX9_states ∈ TBL := ck41_in _ (List.mem_of_getElem? (i := 17) rfl) rfl
theorem wl_X9_198 : Cond.methodLink RX9 198 yX9_writesJournal ∈ TBL := ck41_in _ (List.mem_of_getElem? (i := 21) rfl) rfl
theorem wl_L_40 : Cond.methodLink RL 40 yX9_tried ∈ TBL := ck42_in _ (List.mem_of_getElem? (i := 0) rfl) rfl
theorem wl_L_45 : Cond.methodLink RL 45 yX9_row ∈ TBL := ck42_in _ (List.mem_of_getElem? (i := 4) rfl) rfl
theorem wl_L_49 : Cond.methodLink RL 49 yX9_value ∈ TBL := ck42_in _ (List.mem_of_getElem? (i := 8) rfl) rfl
theorem wl_L_53 : Cond.methodLink RL 53 yX9_ofTrigger ∈ TBL := ck42_in _ (List.mem_of_getElem? (i := 12) rfl) rfl
theorem wl_X9_221 : Cond.methodLink RX9 221 yX9_laysSets ∈ TBL := ck42_in _ (List.mem_of_getElem? (i := 16) rfl) rfl
theorem wl_L_57 : Cond.methodLink RL 57 yX9_journal ∈ TBL := ck42_in _ (List.mem_of_getElem? (i := 20) rfl) rfl
theorem wl_L_61 : Cond.methodLink RL 61 yX9_count ∈ TBL := ck42_in _ (List.mem_of_getElem? (i := 24) rfl) rfl
theorem wl_X9_224 : Cond.methodLink RX9 224 yX9_sumOfNumbers ∈ TBL := ck43_in _ (List.mem_of_getElem? (i := 3) rfl) rfl
theorem wl_X9_228 : Cond.methodLink RX9 228 yX9_selves ∈ TBL := ck43_in _ (List.mem_of_getElem? (i := 7) rfl) rfl
theorem wl_L_65 : Cond.methodLink RL 65 yX9_culprits ∈ TBL := ck43_in _ (List.mem_of_getElem? (i := 11) rfl) rfl
theorem wl_L_69 : Cond.methodLink RL 69 yX9_leastDepth ∈ TBL := ck43_in _ (List.mem_of_getElem? (i := 15) rfl) rfl
theorem wl_L_76 : Cond.methodLink RL 76 yX9_put ∈ TBL := ck43_in _ (List.mem_of_getElem? (i := 19) rfl) rfl
theorem wl_L_81 : Cond.methodLink RL 81 yX9_wipe ∈ TBL := ck43_in _ (List.mem_of_getElem? (i := 24) rfl) rfl
theorem wl_L_85 : Cond.methodLink RL 85 yX9_fault ∈ TBL := ck44_in _ (List.mem_of_getElem? (i := 3) rfl) rfl
theorem wl_X9_258 : Cond.methodLink RX9 258 yX9_reads ∈ TBL := ck44_in _ (List.mem_of_getElem? (i := 7) rfl) rfl
theorem wl_X9_255 : Cond.methodLink RX9 255 yX9_readsStatement ∈ TBL := ck44_in _ (List.mem_of_getElem? (i := 11) rfl) rfl
theorem wl_X9_243 : Cond.methodLink RX9 243 yX9_sign ∈ TBL := ck44_in _ (List.mem_of_getElem? (i := 15) rfl) rfl
theorem wl_X9_246 : Cond.methodLink RX9 246 yX9_takes ∈ TBL := ck44_in _ (List.mem_of_getElem? (i := 19) rfl) rfl
theorem wl_X9_249 : Cond.methodLink RX9 249 yX9_number ∈ TBL := ck44_in _ (List.mem_of_getElem? (i := 23) rfl) rfl
theorem wl_L_89 : Cond.methodLink RL 89 yX9_carryOut ∈ TBL := ck45_in _ (List.mem_of_getElem? (i := 2) rfl) rfl
theorem wl_L_93 : Cond.methodLink RL 93 yX9_undo ∈ TBL := ck45_in _ (List.mem_of_getElem? (i := 6) rfl) rfl
theorem wl_L_97 : Cond.methodLink RL 97 yX9_save ∈ TBL := ck45_in _ (List.mem_of_getElem? (i := 10) rfl) rfl
theorem wl_X9_261 : Cond.methodLink RX9 261 yX9_allRows ∈ TBL := ck45_in _ (List.mem_of_getElem? (i := 14) rfl) rfl
theorem wl_L_101 : Cond.methodLink RL 101 yX9_restore ∈ TBL := ck46_in _ (List.mem_of_getElem? (i := 3) rfl) rfl
theorem wl_L_7 : Cond.classLink RL 7 RX8 ∈ TBL := ck0_in _ (List.mem_of_getElem? (i := 13) rfl) rfl
theorem wl_X8_7 : Cond.classLink RX8 7 RX5 ∈ TBL := ck0_in _ (List.mem_of_getElem? (i := 21) rfl) rfl
theorem wl_X5_9 : Cond.classLink RX5 9 RX6 ∈ TBL := ck1_in _ (List.mem_of_getElem? (i := 2) rfl) rfl
theorem wl_X5_18 : Cond.classLink RX5 18 RX7 ∈ TBL := ck1_in _ (List.mem_of_getElem? (i := 19) rfl) rfl
theorem wl_X7_9 : Cond.classLink RX7 9 RX4 ∈ TBL := ck2_in _ (List.mem_of_getElem? (i := 0) rfl) rfl
theorem wl_X5_25 : Cond.classLink RX5 25 RX4 ∈ TBL := ck3_in _ (List.mem_of_getElem? (i := 2) rfl) rfl
theorem wl_X8_16 : Cond.classLink RX8 16 RX0 ∈ TBL := ck4_in _ (List.mem_of_getElem? (i := 3) rfl) rfl
theorem wl_X0_9 : Cond.classLink RX0 9 RX6 ∈ TBL := ck4_in _ (List.mem_of_getElem? (i := 9) rfl) rfl
theorem wl_X0_18 : Cond.classLink RX0 18 RX4 ∈ TBL := ck4_in _ (List.mem_of_getElem? (i := 11) rfl) rfl
theorem wl_X0_30 : Cond.classLink RX0 30 RX1 ∈ TBL := ck4_in _ (List.mem_of_getElem? (i := 13) rfl) rfl
theorem wl_X8_23 : Cond.classLink RX8 23 RX3 ∈ TBL := ck7_in _ (List.mem_of_getElem? (i := 3) rfl) rfl
theorem wl_X3_15 : Cond.classLink RX3 15 RX4 ∈ TBL := ck7_in _ (List.mem_of_getElem? (i := 9) rfl) rfl
theorem wl_X8_30 : Cond.classLink RX8 30 RX2 ∈ TBL := ck8_in _ (List.mem_of_getElem? (i := 0) rfl) rfl
theorem wl_X2_9 : Cond.classLink RX2 9 RX5 ∈ TBL := ck8_in _ (List.mem_of_getElem? (i := 6) rfl) rfl
theorem wl_L_10 : Cond.classLink RL 10 RX9 ∈ TBL := ck30_in _ (List.mem_of_getElem? (i := 24) rfl) rfl
/-- the words on nest mates: they travel in the state, not in the lists -/
def nestW : List Cond := [Cond.methodLinkNest RX2 24 yX8_isWithin RX8, Cond.methodLinkNest RX6 27 yX8_isWithin RX8, Cond.methodLinkNest RX1 28 yX8_isWithin RX8, Cond.methodLinkNest RX3 66 yX8_isWithin RX8]
theorem nest_in : ∀ w ∈ nestW, w ∈ lw_tbl := List.forall_mem_cons.mpr ⟨ck11_lw _ (List.mem_of_getElem? (i := 0) rfl), List.forall_mem_cons.mpr ⟨ck17_lw _ (List.mem_of_getElem? (i := 0) rfl), List.forall_mem_cons.mpr ⟨ck21_lw _ (List.mem_of_getElem? (i := 0) rfl), List.forall_mem_cons.mpr ⟨ck28_lw _ (List.mem_of_getElem? (i := 0) rfl), fun w h => absurd h List.not_mem_nil⟩⟩⟩⟩
theorem wx_X2_24 : Cond.methodLinkNest RX2 24 yX8_isWithin RX8 ∈ nestW := List.mem_of_getElem? (i := 0) rfl
theorem wx_X6_27 : Cond.methodLinkNest RX6 27 yX8_isWithin RX8 ∈ nestW := List.mem_of_getElem? (i := 1) rfl
theorem wx_X1_28 : Cond.methodLinkNest RX1 28 yX8_isWithin RX8 ∈ nestW := List.mem_of_getElem? (i := 2) rfl
theorem wx_X3_66 : Cond.methodLinkNest RX3 66 yX8_isWithin RX8 ∈ nestW := List.mem_of_getElem? (i := 3) rfl
