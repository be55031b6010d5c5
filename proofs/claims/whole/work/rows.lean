section
-- ===== PART A: goes FIRST, ahead of the names: the tables' words, and 'selects' of the private methods out of them =====
/-- a private method of a class that the tables say can be made, by its rows of tables_1 -/
def lw_okq (q : MethodName × Nat) : Prop := (q.1.cls ≠ "java/lang/invoke/MethodHandle" ∧ q.1.cls ≠ "java/lang/invoke/VarHandle") ∧ Cond.instantiable q.1.cls q.2 ∈ tables_1 ∧ Cond.privateMethod q.1 ∈ tables_1 ∧ Cond.instanceMethod q.1 ∈ tables_1
theorem lw_p0 : lw_okq (⟨"java/lang/Throwable", "fillInStackTrace", "(I)Ljava/lang/Throwable;"⟩, 6) := ⟨⟨by decide +kernel, by decide +kernel⟩, List.mem_of_getElem? (i := 175) (by decide +kernel), List.mem_of_getElem? (i := 173) (by decide +kernel), List.mem_of_getElem? (i := 174) (by decide +kernel)⟩
theorem lw_p1 : lw_okq (⟨"java/util/ArrayList", "add", "(Ljava/lang/Object;[Ljava/lang/Object;I)V"⟩, 3) := ⟨⟨by decide +kernel, by decide +kernel⟩, List.mem_of_getElem? (i := 36) (by decide +kernel), List.mem_of_getElem? (i := 256) (by decide +kernel), List.mem_of_getElem? (i := 257) (by decide +kernel)⟩
theorem lw_p2 : lw_okq (⟨"java/util/ArrayList", "grow", "()[Ljava/lang/Object;"⟩, 3) := ⟨⟨by decide +kernel, by decide +kernel⟩, List.mem_of_getElem? (i := 36) (by decide +kernel), List.mem_of_getElem? (i := 260) (by decide +kernel), List.mem_of_getElem? (i := 261) (by decide +kernel)⟩
theorem lw_p3 : lw_okq (⟨"java/util/ArrayList", "grow", "(I)[Ljava/lang/Object;"⟩, 3) := ⟨⟨by decide +kernel, by decide +kernel⟩, List.mem_of_getElem? (i := 36) (by decide +kernel), List.mem_of_getElem? (i := 264) (by decide +kernel), List.mem_of_getElem? (i := 265) (by decide +kernel)⟩
theorem lw_p4 : lw_okq (⟨"LiftDesk", "badgeNumbered", "(I)LLiftDesk$Badge;"⟩, 12) := ⟨⟨by decide +kernel, by decide +kernel⟩, List.mem_of_getElem? (i := 28) (by decide +kernel), List.mem_of_getElem? (i := 396) (by decide +kernel), List.mem_of_getElem? (i := 397) (by decide +kernel)⟩
theorem lw_p5 : lw_okq (⟨"LiftDesk", "whyNot", "(LLiftDesk$Badge;I)C"⟩, 12) := ⟨⟨by decide +kernel, by decide +kernel⟩, List.mem_of_getElem? (i := 28) (by decide +kernel), List.mem_of_getElem? (i := 425) (by decide +kernel), List.mem_of_getElem? (i := 426) (by decide +kernel)⟩
theorem lw_p6 : lw_okq (⟨"LiftDesk", "hasRider", "(LLiftDesk$Badge;)Z"⟩, 12) := ⟨⟨by decide +kernel, by decide +kernel⟩, List.mem_of_getElem? (i := 28) (by decide +kernel), List.mem_of_getElem? (i := 454) (by decide +kernel), List.mem_of_getElem? (i := 455) (by decide +kernel)⟩
theorem lw_p7 : lw_okq (⟨"LiftDesk", "note", "(LLiftDesk$Rider;)V"⟩, 12) := ⟨⟨by decide +kernel, by decide +kernel⟩, List.mem_of_getElem? (i := 28) (by decide +kernel), List.mem_of_getElem? (i := 494) (by decide +kernel), List.mem_of_getElem? (i := 495) (by decide +kernel)⟩
theorem lw_p8 : lw_okq (⟨"LiftDesk", "giveLift", "(LLiftDesk$Rider;)V"⟩, 12) := ⟨⟨by decide +kernel, by decide +kernel⟩, List.mem_of_getElem? (i := 28) (by decide +kernel), List.mem_of_getElem? (i := 517) (by decide +kernel), List.mem_of_getElem? (i := 518) (by decide +kernel)⟩
theorem lw_p9 : lw_okq (⟨"LiftDesk", "scoreOf", "(LLiftDesk$Lift;I)I"⟩, 12) := ⟨⟨by decide +kernel, by decide +kernel⟩, List.mem_of_getElem? (i := 28) (by decide +kernel), List.mem_of_getElem? (i := 521) (by decide +kernel), List.mem_of_getElem? (i := 522) (by decide +kernel)⟩
theorem lw_p10 : lw_okq (⟨"LiftDesk", "riderNumbered", "(I)LLiftDesk$Rider;"⟩, 12) := ⟨⟨by decide +kernel, by decide +kernel⟩, List.mem_of_getElem? (i := 28) (by decide +kernel), List.mem_of_getElem? (i := 535) (by decide +kernel), List.mem_of_getElem? (i := 536) (by decide +kernel)⟩
theorem lw_p11 : lw_okq (⟨"LiftDesk", "ticksByLog", "(LLiftDesk$Rider;)I"⟩, 12) := ⟨⟨by decide +kernel, by decide +kernel⟩, List.mem_of_getElem? (i := 28) (by decide +kernel), List.mem_of_getElem? (i := 592) (by decide +kernel), List.mem_of_getElem? (i := 593) (by decide +kernel)⟩
theorem lw_p12 : lw_okq (⟨"LiftDesk", "liftNumbered", "(I)LLiftDesk$Lift;"⟩, 12) := ⟨⟨by decide +kernel, by decide +kernel⟩, List.mem_of_getElem? (i := 28) (by decide +kernel), List.mem_of_getElem? (i := 603) (by decide +kernel), List.mem_of_getElem? (i := 604) (by decide +kernel)⟩
theorem lw_p13 : lw_okq (⟨"LiftDesk", "loseLift", "(LLiftDesk$Lift;)I"⟩, 12) := ⟨⟨by decide +kernel, by decide +kernel⟩, List.mem_of_getElem? (i := 28) (by decide +kernel), List.mem_of_getElem? (i := 609) (by decide +kernel), List.mem_of_getElem? (i := 610) (by decide +kernel)⟩
theorem lw_p14 : lw_okq (⟨"LiftDesk$Rider", "waitsFor", "(LLiftDesk$Lift;)Z"⟩, 7) := ⟨⟨by decide +kernel, by decide +kernel⟩, List.mem_of_getElem? (i := 459) (by decide +kernel), List.mem_of_getElem? (i := 613) (by decide +kernel), List.mem_of_getElem? (i := 614) (by decide +kernel)⟩
theorem lw_p15 : lw_okq (⟨"LiftDesk", "countAboard", "(LLiftDesk$Lift;)I"⟩, 12) := ⟨⟨by decide +kernel, by decide +kernel⟩, List.mem_of_getElem? (i := 28) (by decide +kernel), List.mem_of_getElem? (i := 645) (by decide +kernel), List.mem_of_getElem? (i := 646) (by decide +kernel)⟩
def lw_privs_1 : List (MethodName × Nat) := [(⟨"java/lang/Throwable", "fillInStackTrace", "(I)Ljava/lang/Throwable;"⟩, 6), (⟨"java/util/ArrayList", "add", "(Ljava/lang/Object;[Ljava/lang/Object;I)V"⟩, 3), (⟨"java/util/ArrayList", "grow", "()[Ljava/lang/Object;"⟩, 3), (⟨"java/util/ArrayList", "grow", "(I)[Ljava/lang/Object;"⟩, 3), (⟨"LiftDesk", "badgeNumbered", "(I)LLiftDesk$Badge;"⟩, 12), (⟨"LiftDesk", "whyNot", "(LLiftDesk$Badge;I)C"⟩, 12), (⟨"LiftDesk", "hasRider", "(LLiftDesk$Badge;)Z"⟩, 12), (⟨"LiftDesk", "note", "(LLiftDesk$Rider;)V"⟩, 12), (⟨"LiftDesk", "giveLift", "(LLiftDesk$Rider;)V"⟩, 12), (⟨"LiftDesk", "scoreOf", "(LLiftDesk$Lift;I)I"⟩, 12), (⟨"LiftDesk", "riderNumbered", "(I)LLiftDesk$Rider;"⟩, 12), (⟨"LiftDesk", "ticksByLog", "(LLiftDesk$Rider;)I"⟩, 12), (⟨"LiftDesk", "liftNumbered", "(I)LLiftDesk$Lift;"⟩, 12), (⟨"LiftDesk", "loseLift", "(LLiftDesk$Lift;)I"⟩, 12), (⟨"LiftDesk$Rider", "waitsFor", "(LLiftDesk$Lift;)Z"⟩, 7), (⟨"LiftDesk", "countAboard", "(LLiftDesk$Lift;)I"⟩, 12)]
theorem lw_r1 : ∀ q ∈ lw_privs_1, lw_okq q := List.forall_mem_cons.mpr ⟨lw_p0, List.forall_mem_cons.mpr ⟨lw_p1, List.forall_mem_cons.mpr ⟨lw_p2, List.forall_mem_cons.mpr ⟨lw_p3, List.forall_mem_cons.mpr ⟨lw_p4, List.forall_mem_cons.mpr ⟨lw_p5, List.forall_mem_cons.mpr ⟨lw_p6, List.forall_mem_cons.mpr ⟨lw_p7, List.forall_mem_cons.mpr ⟨lw_p8, List.forall_mem_cons.mpr ⟨lw_p9, List.forall_mem_cons.mpr ⟨lw_p10, List.forall_mem_cons.mpr ⟨lw_p11, List.forall_mem_cons.mpr ⟨lw_p12, List.forall_mem_cons.mpr ⟨lw_p13, List.forall_mem_cons.mpr ⟨lw_p14, List.forall_mem_cons.mpr ⟨lw_p15, fun _ h => absurd h List.not_mem_nil⟩⟩⟩⟩⟩⟩⟩⟩⟩⟩⟩⟩⟩⟩⟩⟩
theorem lw_p16 : lw_okq (⟨"LiftDesk$Rider", "isIn", "(LLiftDesk$Lift;)Z"⟩, 7) := ⟨⟨by decide +kernel, by decide +kernel⟩, List.mem_of_getElem? (i := 459) (by decide +kernel), List.mem_of_getElem? (i := 649) (by decide +kernel), List.mem_of_getElem? (i := 650) (by decide +kernel)⟩
theorem lw_p17 : lw_okq (⟨"LiftDesk", "passOneTick", "()V"⟩, 12) := ⟨⟨by decide +kernel, by decide +kernel⟩, List.mem_of_getElem? (i := 28) (by decide +kernel), List.mem_of_getElem? (i := 668) (by decide +kernel), List.mem_of_getElem? (i := 669) (by decide +kernel)⟩
theorem lw_p18 : lw_okq (⟨"LiftDesk", "giveLiftsInTurn", "()V"⟩, 12) := ⟨⟨by decide +kernel, by decide +kernel⟩, List.mem_of_getElem? (i := 28) (by decide +kernel), List.mem_of_getElem? (i := 672) (by decide +kernel), List.mem_of_getElem? (i := 673) (by decide +kernel)⟩
theorem lw_p19 : lw_okq (⟨"LiftDesk", "floorInTurn", "()I"⟩, 12) := ⟨⟨by decide +kernel, by decide +kernel⟩, List.mem_of_getElem? (i := 28) (by decide +kernel), List.mem_of_getElem? (i := 676) (by decide +kernel), List.mem_of_getElem? (i := 677) (by decide +kernel)⟩
theorem lw_p20 : lw_okq (⟨"LiftDesk", "isWaitedOn", "(I)Z"⟩, 12) := ⟨⟨by decide +kernel, by decide +kernel⟩, List.mem_of_getElem? (i := 28) (by decide +kernel), List.mem_of_getElem? (i := 680) (by decide +kernel), List.mem_of_getElem? (i := 681) (by decide +kernel)⟩
theorem lw_p21 : lw_okq (⟨"LiftDesk", "giveLiftsToAll", "()V"⟩, 12) := ⟨⟨by decide +kernel, by decide +kernel⟩, List.mem_of_getElem? (i := 28) (by decide +kernel), List.mem_of_getElem? (i := 684) (by decide +kernel), List.mem_of_getElem? (i := 685) (by decide +kernel)⟩
theorem lw_p22 : lw_okq (⟨"LiftDesk", "runLift", "(LLiftDesk$Lift;)V"⟩, 12) := ⟨⟨by decide +kernel, by decide +kernel⟩, List.mem_of_getElem? (i := 28) (by decide +kernel), List.mem_of_getElem? (i := 688) (by decide +kernel), List.mem_of_getElem? (i := 689) (by decide +kernel)⟩
theorem lw_p23 : lw_okq (⟨"LiftDesk$Lift", "cleanForOneTick", "()V"⟩, 6) := ⟨⟨by decide +kernel, by decide +kernel⟩, List.mem_of_getElem? (i := 221) (by decide +kernel), List.mem_of_getElem? (i := 692) (by decide +kernel), List.mem_of_getElem? (i := 693) (by decide +kernel)⟩
theorem lw_p24 : lw_okq (⟨"LiftDesk", "letOut", "(LLiftDesk$Lift;)Z"⟩, 12) := ⟨⟨by decide +kernel, by decide +kernel⟩, List.mem_of_getElem? (i := 28) (by decide +kernel), List.mem_of_getElem? (i := 696) (by decide +kernel), List.mem_of_getElem? (i := 697) (by decide +kernel)⟩
theorem lw_p25 : lw_okq (⟨"java/util/ArrayList", "fastRemove", "([Ljava/lang/Object;I)V"⟩, 3) := ⟨⟨by decide +kernel, by decide +kernel⟩, List.mem_of_getElem? (i := 36) (by decide +kernel), List.mem_of_getElem? (i := 704) (by decide +kernel), List.mem_of_getElem? (i := 705) (by decide +kernel)⟩
theorem lw_p26 : lw_okq (⟨"LiftDesk", "finish", "(LLiftDesk$Rider;I)V"⟩, 12) := ⟨⟨by decide +kernel, by decide +kernel⟩, List.mem_of_getElem? (i := 28) (by decide +kernel), List.mem_of_getElem? (i := 709) (by decide +kernel), List.mem_of_getElem? (i := 710) (by decide +kernel)⟩
theorem lw_p27 : lw_okq (⟨"LiftDesk", "letIn", "(LLiftDesk$Lift;)Z"⟩, 12) := ⟨⟨by decide +kernel, by decide +kernel⟩, List.mem_of_getElem? (i := 28) (by decide +kernel), List.mem_of_getElem? (i := 713) (by decide +kernel), List.mem_of_getElem? (i := 714) (by decide +kernel)⟩
theorem lw_p28 : lw_okq (⟨"LiftDesk", "hasRoom", "(LLiftDesk$Lift;)Z"⟩, 12) := ⟨⟨by decide +kernel, by decide +kernel⟩, List.mem_of_getElem? (i := 28) (by decide +kernel), List.mem_of_getElem? (i := 717) (by decide +kernel), List.mem_of_getElem? (i := 718) (by decide +kernel)⟩
theorem lw_p29 : lw_okq (⟨"LiftDesk", "goAboard", "(LLiftDesk$Rider;)V"⟩, 12) := ⟨⟨by decide +kernel, by decide +kernel⟩, List.mem_of_getElem? (i := 28) (by decide +kernel), List.mem_of_getElem? (i := 721) (by decide +kernel), List.mem_of_getElem? (i := 722) (by decide +kernel)⟩
theorem lw_p30 : lw_okq (⟨"LiftDesk", "move", "(LLiftDesk$Lift;)V"⟩, 12) := ⟨⟨by decide +kernel, by decide +kernel⟩, List.mem_of_getElem? (i := 28) (by decide +kernel), List.mem_of_getElem? (i := 725) (by decide +kernel), List.mem_of_getElem? (i := 726) (by decide +kernel)⟩
theorem lw_p31 : lw_okq (⟨"LiftDesk", "hasAimTowards", "(LLiftDesk$Lift;IZ)Z"⟩, 12) := ⟨⟨by decide +kernel, by decide +kernel⟩, List.mem_of_getElem? (i := 28) (by decide +kernel), List.mem_of_getElem? (i := 729) (by decide +kernel), List.mem_of_getElem? (i := 730) (by decide +kernel)⟩
def lw_privs_2 : List (MethodName × Nat) := [(⟨"LiftDesk$Rider", "isIn", "(LLiftDesk$Lift;)Z"⟩, 7), (⟨"LiftDesk", "passOneTick", "()V"⟩, 12), (⟨"LiftDesk", "giveLiftsInTurn", "()V"⟩, 12), (⟨"LiftDesk", "floorInTurn", "()I"⟩, 12), (⟨"LiftDesk", "isWaitedOn", "(I)Z"⟩, 12), (⟨"LiftDesk", "giveLiftsToAll", "()V"⟩, 12), (⟨"LiftDesk", "runLift", "(LLiftDesk$Lift;)V"⟩, 12), (⟨"LiftDesk$Lift", "cleanForOneTick", "()V"⟩, 6), (⟨"LiftDesk", "letOut", "(LLiftDesk$Lift;)Z"⟩, 12), (⟨"java/util/ArrayList", "fastRemove", "([Ljava/lang/Object;I)V"⟩, 3), (⟨"LiftDesk", "finish", "(LLiftDesk$Rider;I)V"⟩, 12), (⟨"LiftDesk", "letIn", "(LLiftDesk$Lift;)Z"⟩, 12), (⟨"LiftDesk", "hasRoom", "(LLiftDesk$Lift;)Z"⟩, 12), (⟨"LiftDesk", "goAboard", "(LLiftDesk$Rider;)V"⟩, 12), (⟨"LiftDesk", "move", "(LLiftDesk$Lift;)V"⟩, 12), (⟨"LiftDesk", "hasAimTowards", "(LLiftDesk$Lift;IZ)Z"⟩, 12)]
theorem lw_r2 : ∀ q ∈ lw_privs_2, lw_okq q := List.forall_mem_cons.mpr ⟨lw_p16, List.forall_mem_cons.mpr ⟨lw_p17, List.forall_mem_cons.mpr ⟨lw_p18, List.forall_mem_cons.mpr ⟨lw_p19, List.forall_mem_cons.mpr ⟨lw_p20, List.forall_mem_cons.mpr ⟨lw_p21, List.forall_mem_cons.mpr ⟨lw_p22, List.forall_mem_cons.mpr ⟨lw_p23, List.forall_mem_cons.mpr ⟨lw_p24, List.forall_mem_cons.mpr ⟨lw_p25, List.forall_mem_cons.mpr ⟨lw_p26, List.forall_mem_cons.mpr ⟨lw_p27, List.forall_mem_cons.mpr ⟨lw_p28, List.forall_mem_cons.mpr ⟨lw_p29, List.forall_mem_cons.mpr ⟨lw_p30, List.forall_mem_cons.mpr ⟨lw_p31, fun _ h => absurd h List.not_mem_nil⟩⟩⟩⟩⟩⟩⟩⟩⟩⟩⟩⟩⟩⟩⟩⟩
theorem lw_p32 : lw_okq (⟨"LiftDesk", "countWaiting", "()V"⟩, 12) := ⟨⟨by decide +kernel, by decide +kernel⟩, List.mem_of_getElem? (i := 28) (by decide +kernel), List.mem_of_getElem? (i := 733) (by decide +kernel), List.mem_of_getElem? (i := 734) (by decide +kernel)⟩
theorem lw_p33 : lw_okq (⟨"LiftDesk", "sendAllToLobby", "()V"⟩, 12) := ⟨⟨by decide +kernel, by decide +kernel⟩, List.mem_of_getElem? (i := 28) (by decide +kernel), List.mem_of_getElem? (i := 749) (by decide +kernel), List.mem_of_getElem? (i := 750) (by decide +kernel)⟩
theorem lw_p34 : lw_okq (⟨"LiftDeskModel", "fails", "(I)I"⟩, 28) := ⟨⟨by decide +kernel, by decide +kernel⟩, List.mem_of_getElem? (i := 796) (by decide +kernel), List.mem_of_getElem? (i := 896) (by decide +kernel), List.mem_of_getElem? (i := 897) (by decide +kernel)⟩
theorem lw_p35 : lw_okq (⟨"LiftDeskModel", "isBadge", "(I)Z"⟩, 28) := ⟨⟨by decide +kernel, by decide +kernel⟩, List.mem_of_getElem? (i := 796) (by decide +kernel), List.mem_of_getElem? (i := 916) (by decide +kernel), List.mem_of_getElem? (i := 917) (by decide +kernel)⟩
theorem lw_p36 : lw_okq (⟨"LiftDeskModel", "isWrong", "(I)Z"⟩, 28) := ⟨⟨by decide +kernel, by decide +kernel⟩, List.mem_of_getElem? (i := 796) (by decide +kernel), List.mem_of_getElem? (i := 920) (by decide +kernel), List.mem_of_getElem? (i := 921) (by decide +kernel)⟩
theorem lw_p37 : lw_okq (⟨"LiftDeskModel", "why", "(II)C"⟩, 28) := ⟨⟨by decide +kernel, by decide +kernel⟩, List.mem_of_getElem? (i := 796) (by decide +kernel), List.mem_of_getElem? (i := 931) (by decide +kernel), List.mem_of_getElem? (i := 932) (by decide +kernel)⟩
theorem lw_p38 : lw_okq (⟨"LiftDeskModel", "isOut", "(I)Z"⟩, 28) := ⟨⟨by decide +kernel, by decide +kernel⟩, List.mem_of_getElem? (i := 796) (by decide +kernel), List.mem_of_getElem? (i := 939) (by decide +kernel), List.mem_of_getElem? (i := 940) (by decide +kernel)⟩
theorem lw_p39 : lw_okq (⟨"LiftDeskModel", "gives", "(I)V"⟩, 28) := ⟨⟨by decide +kernel, by decide +kernel⟩, List.mem_of_getElem? (i := 796) (by decide +kernel), List.mem_of_getElem? (i := 943) (by decide +kernel), List.mem_of_getElem? (i := 944) (by decide +kernel)⟩
theorem lw_p40 : lw_okq (⟨"LiftDeskModel", "scoreOf", "(II)I"⟩, 28) := ⟨⟨by decide +kernel, by decide +kernel⟩, List.mem_of_getElem? (i := 796) (by decide +kernel), List.mem_of_getElem? (i := 947) (by decide +kernel), List.mem_of_getElem? (i := 948) (by decide +kernel)⟩
theorem lw_p41 : lw_okq (⟨"LiftDeskModel", "isNobody", "(I)Z"⟩, 28) := ⟨⟨by decide +kernel, by decide +kernel⟩, List.mem_of_getElem? (i := 796) (by decide +kernel), List.mem_of_getElem? (i := 956) (by decide +kernel), List.mem_of_getElem? (i := 957) (by decide +kernel)⟩
theorem lw_p42 : lw_okq (⟨"LiftDeskModel", "isRider", "(I)Z"⟩, 28) := ⟨⟨by decide +kernel, by decide +kernel⟩, List.mem_of_getElem? (i := 796) (by decide +kernel), List.mem_of_getElem? (i := 960) (by decide +kernel), List.mem_of_getElem? (i := 961) (by decide +kernel)⟩
theorem lw_p43 : lw_okq (⟨"LiftDeskModel", "waitedBy", "(I)I"⟩, 28) := ⟨⟨by decide +kernel, by decide +kernel⟩, List.mem_of_getElem? (i := 796) (by decide +kernel), List.mem_of_getElem? (i := 980) (by decide +kernel), List.mem_of_getElem? (i := 981) (by decide +kernel)⟩
theorem lw_p44 : lw_okq (⟨"LiftDeskModel", "isLift", "(I)Z"⟩, 28) := ⟨⟨by decide +kernel, by decide +kernel⟩, List.mem_of_getElem? (i := 796) (by decide +kernel), List.mem_of_getElem? (i := 997) (by decide +kernel), List.mem_of_getElem? (i := 998) (by decide +kernel)⟩
theorem lw_p45 : lw_okq (⟨"LiftDeskModel", "frees", "(I)I"⟩, 28) := ⟨⟨by decide +kernel, by decide +kernel⟩, List.mem_of_getElem? (i := 796) (by decide +kernel), List.mem_of_getElem? (i := 1001) (by decide +kernel), List.mem_of_getElem? (i := 1002) (by decide +kernel)⟩
theorem lw_p46 : lw_okq (⟨"LiftDeskModel", "isNoLift", "(I)Z"⟩, 28) := ⟨⟨by decide +kernel, by decide +kernel⟩, List.mem_of_getElem? (i := 796) (by decide +kernel), List.mem_of_getElem? (i := 1009) (by decide +kernel), List.mem_of_getElem? (i := 1010) (by decide +kernel)⟩
theorem lw_p47 : lw_okq (⟨"LiftDeskModel", "aboardMany", "(I)I"⟩, 28) := ⟨⟨by decide +kernel, by decide +kernel⟩, List.mem_of_getElem? (i := 796) (by decide +kernel), List.mem_of_getElem? (i := 1025) (by decide +kernel), List.mem_of_getElem? (i := 1026) (by decide +kernel)⟩
def lw_privs_3 : List (MethodName × Nat) := [(⟨"LiftDesk", "countWaiting", "()V"⟩, 12), (⟨"LiftDesk", "sendAllToLobby", "()V"⟩, 12), (⟨"LiftDeskModel", "fails", "(I)I"⟩, 28), (⟨"LiftDeskModel", "isBadge", "(I)Z"⟩, 28), (⟨"LiftDeskModel", "isWrong", "(I)Z"⟩, 28), (⟨"LiftDeskModel", "why", "(II)C"⟩, 28), (⟨"LiftDeskModel", "isOut", "(I)Z"⟩, 28), (⟨"LiftDeskModel", "gives", "(I)V"⟩, 28), (⟨"LiftDeskModel", "scoreOf", "(II)I"⟩, 28), (⟨"LiftDeskModel", "isNobody", "(I)Z"⟩, 28), (⟨"LiftDeskModel", "isRider", "(I)Z"⟩, 28), (⟨"LiftDeskModel", "waitedBy", "(I)I"⟩, 28), (⟨"LiftDeskModel", "isLift", "(I)Z"⟩, 28), (⟨"LiftDeskModel", "frees", "(I)I"⟩, 28), (⟨"LiftDeskModel", "isNoLift", "(I)Z"⟩, 28), (⟨"LiftDeskModel", "aboardMany", "(I)I"⟩, 28)]
theorem lw_r3 : ∀ q ∈ lw_privs_3, lw_okq q := List.forall_mem_cons.mpr ⟨lw_p32, List.forall_mem_cons.mpr ⟨lw_p33, List.forall_mem_cons.mpr ⟨lw_p34, List.forall_mem_cons.mpr ⟨lw_p35, List.forall_mem_cons.mpr ⟨lw_p36, List.forall_mem_cons.mpr ⟨lw_p37, List.forall_mem_cons.mpr ⟨lw_p38, List.forall_mem_cons.mpr ⟨lw_p39, List.forall_mem_cons.mpr ⟨lw_p40, List.forall_mem_cons.mpr ⟨lw_p41, List.forall_mem_cons.mpr ⟨lw_p42, List.forall_mem_cons.mpr ⟨lw_p43, List.forall_mem_cons.mpr ⟨lw_p44, List.forall_mem_cons.mpr ⟨lw_p45, List.forall_mem_cons.mpr ⟨lw_p46, List.forall_mem_cons.mpr ⟨lw_p47, fun _ h => absurd h List.not_mem_nil⟩⟩⟩⟩⟩⟩⟩⟩⟩⟩⟩⟩⟩⟩⟩⟩
theorem lw_p48 : lw_okq (⟨"LiftDeskModel", "passesOne", "()V"⟩, 28) := ⟨⟨by decide +kernel, by decide +kernel⟩, List.mem_of_getElem? (i := 796) (by decide +kernel), List.mem_of_getElem? (i := 1037) (by decide +kernel), List.mem_of_getElem? (i := 1038) (by decide +kernel)⟩
theorem lw_p49 : lw_okq (⟨"LiftDeskModel", "turnNow", "()I"⟩, 28) := ⟨⟨by decide +kernel, by decide +kernel⟩, List.mem_of_getElem? (i := 796) (by decide +kernel), List.mem_of_getElem? (i := 1041) (by decide +kernel), List.mem_of_getElem? (i := 1042) (by decide +kernel)⟩
theorem lw_p50 : lw_okq (⟨"LiftDeskModel", "isWaiting", "(I)Z"⟩, 28) := ⟨⟨by decide +kernel, by decide +kernel⟩, List.mem_of_getElem? (i := 796) (by decide +kernel), List.mem_of_getElem? (i := 1045) (by decide +kernel), List.mem_of_getElem? (i := 1046) (by decide +kernel)⟩
theorem lw_p51 : lw_okq (⟨"LiftDeskModel", "works", "(I)V"⟩, 28) := ⟨⟨by decide +kernel, by decide +kernel⟩, List.mem_of_getElem? (i := 796) (by decide +kernel), List.mem_of_getElem? (i := 1049) (by decide +kernel), List.mem_of_getElem? (i := 1050) (by decide +kernel)⟩
theorem lw_p52 : lw_okq (⟨"LiftDeskModel", "opens", "(I)Z"⟩, 28) := ⟨⟨by decide +kernel, by decide +kernel⟩, List.mem_of_getElem? (i := 796) (by decide +kernel), List.mem_of_getElem? (i := 1053) (by decide +kernel), List.mem_of_getElem? (i := 1054) (by decide +kernel)⟩
theorem lw_p53 : lw_okq (⟨"LiftDeskModel", "ends", "(II)V"⟩, 28) := ⟨⟨by decide +kernel, by decide +kernel⟩, List.mem_of_getElem? (i := 796) (by decide +kernel), List.mem_of_getElem? (i := 1057) (by decide +kernel), List.mem_of_getElem? (i := 1058) (by decide +kernel)⟩
theorem lw_p54 : lw_okq (⟨"LiftDeskModel", "goes", "(I)V"⟩, 28) := ⟨⟨by decide +kernel, by decide +kernel⟩, List.mem_of_getElem? (i := 796) (by decide +kernel), List.mem_of_getElem? (i := 1061) (by decide +kernel), List.mem_of_getElem? (i := 1062) (by decide +kernel)⟩
theorem lw_p55 : lw_okq (⟨"LiftDeskModel", "hasAim", "(III)Z"⟩, 28) := ⟨⟨by decide +kernel, by decide +kernel⟩, List.mem_of_getElem? (i := 796) (by decide +kernel), List.mem_of_getElem? (i := 1065) (by decide +kernel), List.mem_of_getElem? (i := 1066) (by decide +kernel)⟩
theorem lw_p56 : lw_okq (⟨"LiftDeskModel", "isAim", "(III)Z"⟩, 28) := ⟨⟨by decide +kernel, by decide +kernel⟩, List.mem_of_getElem? (i := 796) (by decide +kernel), List.mem_of_getElem? (i := 1069) (by decide +kernel), List.mem_of_getElem? (i := 1070) (by decide +kernel)⟩
theorem lw_p57 : lw_okq (⟨"LiftDeskModel", "outMany", "()I"⟩, 28) := ⟨⟨by decide +kernel, by decide +kernel⟩, List.mem_of_getElem? (i := 796) (by decide +kernel), List.mem_of_getElem? (i := 1073) (by decide +kernel), List.mem_of_getElem? (i := 1074) (by decide +kernel)⟩
def lw_privs_4 : List (MethodName × Nat) := [(⟨"LiftDeskModel", "passesOne", "()V"⟩, 28), (⟨"LiftDeskModel", "turnNow", "()I"⟩, 28), (⟨"LiftDeskModel", "isWaiting", "(I)Z"⟩, 28), (⟨"LiftDeskModel", "works", "(I)V"⟩, 28), (⟨"LiftDeskModel", "opens", "(I)Z"⟩, 28), (⟨"LiftDeskModel", "ends", "(II)V"⟩, 28), (⟨"LiftDeskModel", "goes", "(I)V"⟩, 28), (⟨"LiftDeskModel", "hasAim", "(III)Z"⟩, 28), (⟨"LiftDeskModel", "isAim", "(III)Z"⟩, 28), (⟨"LiftDeskModel", "outMany", "()I"⟩, 28)]
theorem lw_r4 : ∀ q ∈ lw_privs_4, lw_okq q := List.forall_mem_cons.mpr ⟨lw_p48, List.forall_mem_cons.mpr ⟨lw_p49, List.forall_mem_cons.mpr ⟨lw_p50, List.forall_mem_cons.mpr ⟨lw_p51, List.forall_mem_cons.mpr ⟨lw_p52, List.forall_mem_cons.mpr ⟨lw_p53, List.forall_mem_cons.mpr ⟨lw_p54, List.forall_mem_cons.mpr ⟨lw_p55, List.forall_mem_cons.mpr ⟨lw_p56, List.forall_mem_cons.mpr ⟨lw_p57, fun _ h => absurd h List.not_mem_nil⟩⟩⟩⟩⟩⟩⟩⟩⟩⟩
def lw_privs : List (MethodName × Nat) := lw_privs_1 ++ (lw_privs_2 ++ (lw_privs_3 ++ (lw_privs_4)))
def lw_tbl : List Cond := k2_sels lw_privs ++ tables_1
theorem lw_privs_ok : ∀ q ∈ lw_privs, lw_okq q := by
  show ∀ q ∈ lw_privs_1 ++ (lw_privs_2 ++ (lw_privs_3 ++ (lw_privs_4))), lw_okq q
  exact List.forall_mem_append.mpr ⟨lw_r1, List.forall_mem_append.mpr ⟨lw_r2, List.forall_mem_append.mpr ⟨lw_r3, lw_r4⟩⟩⟩
/-- the streams that the claim lets the run draw from -/
abbrev lw_cs : List Choice := [Jvm.Choice.named "NaN.bits"]
theorem lw_bits : nanBits ∈ lw_cs := by first | decide | exact List.mem_cons_self | simp [lw_cs, nanBits]
end
section
/-! ===== BEGIN words of one list among another's, by their places ===== -/
theorem goodIn_r {big : List Cond} (ws : List Cond) (ps : List Nat) (hp : ws = ps.filterMap (fun i => big[i]?)) (h : ws.all goodWord = true) : GoodIn big ws := by
  intro w hw
  have h1 := List.all_eq_true.mp h w hw
  rw [hp] at hw
  obtain ⟨i, -, hi⟩ := List.mem_filterMap.mp hw
  have hm : w ∈ big := by first | exact List.mem_of_getElem? hi | exact List.getElem?_mem hi
  exact ⟨hm, good_of_word h1⟩
theorem goodIn_app {big a b : List Cond} (ha : GoodIn big a) (hb : GoodIn big b) : GoodIn big (a ++ b) := fun w h => (List.mem_append.mp h).elim (ha w) (hb w)
theorem goodIn_ca {big a b : List Cond} {c : Cond} (ha : GoodIn big (c :: a)) (hb : GoodIn big b) : GoodIn big (c :: (a ++ b)) := fun w h => (List.mem_cons.mp h).elim (fun e => ha w (List.mem_cons.mpr (Or.inl e))) (fun h => (List.mem_append.mp h).elim (fun h => ha w (List.mem_cons.mpr (Or.inr h))) (hb w))
theorem goodIn_sub {big ws : List Cond} (hm : ∀ w ∈ ws, w ∈ big) (h : ws.all goodWord = true) : GoodIn big ws := fun w hw => ⟨hm w hw, good_of_word (List.all_eq_true.mp h w hw)⟩
/-! ===== END ===== -/

/-! ===== BEGIN exceptions that leave a method, and their catching by the caller (launches without stack traces) ===== -/
section VXA
/-! The laws vx_back, vx_callV, vx_callS, vx_callSW, vx_throw0, vx_throwS follow proofs of the library, with one case more: JvmDerived/Free/Laws.lean (Back.of_free), Shelf42/LK1.lean (callV, callS), Shelf/KitTraced.lean (throwNew0V, throwNewS). -/
/-- where a method has thrown q: the class by its name, the cell, what was written, the world -/
def vx_T (XC : String → State → State → Prop) (st : State) (q : Addr) (t : State) (mc ms : Nat) (free : Addr → Prop) : Prop :=
  ∃ (E : String) (ce : Cell) (L : List Loc), XC E st t ∧ t.heap[q]? = some ce ∧ ce.vm = .none ∧ st.vm.findClass E = some ce.cls ∧ st.WarmedH t.vm ∧ st.sameButNew ({ t with vm := st.vm } : State) L mc ms ∧ ∀ z ∈ L, free z.base
def vx_Q (Qc : Array Value → State → Outcome → State → Prop) (XC : String → State → State → Prop) (mc ms : Nat) (free : Addr → Prop) : Array Value → State → Outcome → State → Prop := fun a st o t =>
  (Qc a st o t ∧ ∃ L, FrameEnd st o t L mc ms ∧ ∀ q ∈ L, free q.base) ∨ ∃ q, o = .threw q ∧ vx_T XC st q t mc ms free
/-- a callee that returns or throws -/
def vx_Met (l : Launch) (y : MethodName) (ws : List Cond) (rm : Room) (Pc : Array Value → State → Prop) (Qc : Array Value → State → Outcome → State → Prop) (XC : String → State → State → Prop) (mc ms : Nat) (free : Addr → Prop) : Prop :=
  MetFree l y (headSpec ws rm) Pc (fun _ _ _ _ _ => True) (vx_Q Qc XC mc ms free)
def vx_Post (XC : String → State → State → Prop) (mc ms : Nat) (free : Addr → Prop) : Pt → Array Value → Addr → Pt → Prop := fun A a q B =>
  ∃ (g : JFrame) (mk : MethodId) (t : State) (L : List Loc) (E : String) (ce : Cell), B.U.heap = t.heap ∧ B.U.vm = t.vm ∧ XC E (A.U.calling g mk a) t ∧ t.heap[q]? = some ce ∧ ce.vm = .none ∧ A.U.vm.findClass E = some ce.cls ∧ B.locs = A.locs ++ L ∧ (∀ z ∈ L, free z.base) ∧ B.cells = A.cells + mc ∧ B.slots = A.slots + ms
def vx_Back (l : Launch) (R : Room) (p : Program) (e : Env) (below : List Frame) (s : State) (sargs : Array Value) (y : MethodName) (len W9 : Nat)
    (Pre : Pt → Array Value → Prop) (Post : Pt → Array Value → Option Value → Pt → Prop) (PostX : Pt → Array Value → Addr → Pt → Prop) : Prop :=
  ∀ (m : MethodId) (meth : Method) (c : Code) (A : Pt) (g : JFrame) (ig : Instr) (mk : MethodId) (a : Array Value),
    Stand p l e R s m sargs below meth c A.U A.locs A.cells A.slots → g.method = m → g.locals.size = c.maxLocals → decode c.code g.pc = .ok (ig, len) →
    2 * g.monitorRoom + (g.stack.map fun v => v.category).sum ≤ W9 → A.U.methodNamed? y = some mk → Pre A a →
    (∃ (v : Option Value) (B : Pt), Stand p l e R s m sargs below meth c B.U B.locs B.cells B.slots ∧ Post A a v B ∧
      Steps p.tables e below (doInvoke e (A.U.setTop g) [] mk a).1 (B.U.setTop { g with pc := g.pc + len, stack := v.toList ++ g.stack })) ∨
    (∃ (q : Addr) (B : Pt), Stand p l e R s m sargs below meth c B.U B.locs B.cells B.slots ∧ PostX A a q B ∧
      Steps p.tables e below (doInvoke e (A.U.setTop g) [] mk a).1 ((B.U.setTop g).pushFrame (.throwing q)))
section Payer
variable {l : Launch} {R : Room} {p : Program} {e : Env} {below : List Frame} {s : State} {sargs : Array Value} {y : MethodName} {len W9 : Nat}
theorem vx_back {ws : List Cond} {rm : Room} {Pc : Array Value → State → Prop} {Qc : Array Value → State → Outcome → State → Prop} {XC : String → State → State → Prop} {mc ms : Nat} {free : Addr → Prop} {bytes : ByteArray} {maxL : Nat} {ret : Option FieldType}
    (hM : vx_Met l y ws rm Pc Qc XC mc ms free) (hblind : FrameBlind Pc) (hrc : rm.cells = mc) (hrs : rm.slots = ms)
    (hframes : rm.frames + 1 ≤ R.frames) (hlocals : W9 + (maxL + 11) + rm.locals ≤ R.locals)
    (hws : ∀ w ∈ ws, ∀ a' U, s.WarmedH U.vm → w.before a' U = true) (hcode : Cond.code y bytes maxL ret ∈ ws) (hinit : ∀ a' U, s.WarmedH U.vm → (Cond.initialized y.cls).before a' U = true) :
    vx_Back l R p e below s sargs y len W9 (PreOf R mc ms Pc) (PostOf Qc mc ms free) (vx_Post XC mc ms free) := by
  intro m meth c A g ig mk a X hg hsize hdg hW hn hp
  have h1 : (headSpec ws rm).pre.before a A.U = true := atoms_intro fun w hw => hws w hw _ _ X.warmed
  have h2 : (Cond.code y bytes maxL ret).before a A.U = true := hws _ hcode _ _ X.warmed
  have h3 : (Cond.initialized y.cls).before a A.U = true := hinit _ _ X.warmed
  have h4 : A.cells + (headSpec ws rm).room.cells ≤ R.cells := by rw [show (headSpec ws rm).room.cells = mc from hrc]; exact hp.1
  have h5 : A.slots + (headSpec ws rm).room.slots ≤ R.slots := by rw [show (headSpec ws rm).room.slots = ms from hrs]; exact hp.2.1
  have hPc : Pc a (A.U.calling g mk a) := hblind _ _ _ _ hp.2.2
  obtain ⟨U, Ls, c0, s0⟩ := A
  dsimp only [Pt.U, Pt.locs, Pt.cells, Pt.slots] at h1 h2 h3 h4 h5 X hn hPc ⊢
  obtain ⟨methY, cY, hmY, hcY, -, hlY, -, -, -, -⟩ := Cond.code_spec hn h2
  obtain ⟨kY, hkY, -⟩ := className_of_methodNamed hn
  have hinitY : kY.init = .initialized := Cond.initialized_spec (findClass_of_methodNamed hn) hkY h3
  have h : At U g.method c below := by rw [hg]; exact X.here
  have hlocals9 : W9 + (maxL + 11) + (headSpec ws rm).room.locals ≤ R.locals := hlocals
  have happ : (headSpec ws rm).appliesLoose y e.platform (U.calling g mk a) = true :=
    Spec.appliesLoose_calling (g := g) h hdg hn hkY hinitY
      (X.room_calling (g := g) (R' := (headSpec ws rm).room) hsize hmY hcY hframes (by rw [hlY]; omega) h4 h5) h1
  obtain ⟨mid, hmid⟩ := h.above
  have hfr : (U.setTop g).frames = (.java g :: mid) ++ below := by rw [State.frames_setTop' g h.top, hmid]; rfl
  obtain ⟨o, s₂, hsteps, -, hend, hq⟩ := Steps.callFree hM p X.admits X.cas X.clock (acts := []) hfr happ hPc trivial
  have hq' : vx_Q Qc XC mc ms free a (U.calling g mk a) o s₂ := hq
  rw [State.frames_setTop' g h.top] at hend
  obtain ⟨g₀, hg0⟩ := Option.isSome_iff_exists.mp h.top
  obtain ⟨r, hr⟩ := State.topJava?_eq_some.mp hg0
  have hr' : (({ U with heap := s₂.heap, slotsUsed := s₂.slotsUsed } : State).setVm s₂.vm).frames = .java g₀ :: r := hr
  rcases hq' with ⟨hqc, L, hfe, hL⟩ | ⟨q, rfl, E, ce, L, hx, hce, hcv, hcl, hW₂, hsm, hL⟩
  · obtain ⟨⟨v, rfl⟩, hW₂, e2, q2, q3, q4, q5, q6⟩ := id hfe
    have e3 : s₂ = ({ (U.calling g mk a).setFrames s₂.frames with heap := s₂.heap, slotsUsed := s₂.slotsUsed } : State).setVm s₂.vm := by
      have : s₂ = ({ s₂ with vm := (U.calling g mk a).vm } : State).setVm s₂.vm := rfl
      rw [e2] at this
      exact this
    obtain ⟨c₂, i₂, len₂, hc₂, hd₂, hf₂⟩ := hend
    have hW' : U.WarmedH s₂.vm := hW₂
    have hcc : c₂ = c := by
      have h1 : s₂.code? g.method = U.code? g.method := by
        rw [State.code?_eq, State.code?_eq, hW'.alike.method?]
      exact Option.some.inj (hc₂.symm.trans (h1.trans h.code))
    subst hcc
    have hlen : len₂ = len := by rw [hdg] at hd₂; cases hd₂; rfl
    subst hlen
    have hs₂ : s₂ = (({ U with heap := s₂.heap, slotsUsed := s₂.slotsUsed } : State).setVm s₂.vm).setTop { g with pc := g.pc + len₂, stack := v.toList ++ g.stack } := by
      refine e3.trans ?_
      rw [hf₂, State.calling_eq h.top, State.setFrames_setFrames, State.setTop_of_frames _ hr', hr]
      rfl
    have hsame : U.sameButNew ({ U with heap := s₂.heap, slotsUsed := s₂.slotsUsed } : State) L mc ms := by
      refine ⟨?_, q2, q3, q4, q5, q6⟩
      obtain ⟨t, ht, -⟩ := State.frames_cons hr
      show ({ U with heap := s₂.heap, slotsUsed := s₂.slotsUsed } : State) = { U.setFrames U.frames with heap := s₂.heap, slotsUsed := s₂.slotsUsed }
      rw [State.setFrames_self ht]
    subst hg
    refine Or.inl ⟨v, ⟨(({ U with heap := s₂.heap, slotsUsed := s₂.slotsUsed } : State).setVm s₂.vm), Ls ++ L, c0 + mc, s0 + ms⟩,
      ⟨X.admits, X.cas, X.clock, X.frames, X.room, X.hears, X.method, X.code, (X.here.setHeapUsed s₂.heap s₂.slotsUsed).setVm hW'.alike, X.tail, State.WarmedH.trans X.warmed hW', X.limits, X.bytes, X.same.trans (hsame.setVm s.vm)⟩,
      ⟨g, mk, s₂, L, rfl, rfl, hqc, rfl, hL, rfl, rfl⟩, ?_⟩
    show Steps p.tables e below _ ((({ U with heap := s₂.heap, slotsUsed := s₂.slotsUsed } : State).setVm s₂.vm).setTop { g with pc := g.pc + len₂, stack := v.toList ++ g.stack })
    rw [← hs₂]
    exact hsteps
  · obtain ⟨e2, q2, q3, q4, q5, q6⟩ := id hsm
    have e3 : s₂ = ({ (U.calling g mk a).setFrames s₂.frames with heap := s₂.heap, slotsUsed := s₂.slotsUsed } : State).setVm s₂.vm := by
      have : s₂ = ({ s₂ with vm := (U.calling g mk a).vm } : State).setVm s₂.vm := rfl
      rw [e2] at this
      exact this
    have hf₂ : s₂.frames = .throwing q :: .java g :: U.frames.tail := hend
    have hW' : U.WarmedH s₂.vm := hW₂
    have hs₂ : s₂ = ((({ U with heap := s₂.heap, slotsUsed := s₂.slotsUsed } : State).setVm s₂.vm).setTop g).pushFrame (.throwing q) := by
      refine e3.trans ?_
      rw [hf₂, State.calling_eq h.top, State.setFrames_setFrames, State.pushFrame, State.frames_setTop _ hr', State.setTop_of_frames _ hr', State.setFrames_setFrames, hr]
      rfl
    have hsame : U.sameButNew ({ U with heap := s₂.heap, slotsUsed := s₂.slotsUsed } : State) L mc ms := by
      refine ⟨?_, q2, q3, q4, q5, q6⟩
      obtain ⟨t, ht, -⟩ := State.frames_cons hr
      show ({ U with heap := s₂.heap, slotsUsed := s₂.slotsUsed } : State) = { U.setFrames U.frames with heap := s₂.heap, slotsUsed := s₂.slotsUsed }
      rw [State.setFrames_self ht]
    subst hg
    refine Or.inr ⟨q, ⟨(({ U with heap := s₂.heap, slotsUsed := s₂.slotsUsed } : State).setVm s₂.vm), Ls ++ L, c0 + mc, s0 + ms⟩,
      ⟨X.admits, X.cas, X.clock, X.frames, X.room, X.hears, X.method, X.code, (X.here.setHeapUsed s₂.heap s₂.slotsUsed).setVm hW'.alike, X.tail, State.WarmedH.trans X.warmed hW', X.limits, X.bytes, X.same.trans (hsame.setVm s.vm)⟩,
      ⟨g, mk, s₂, L, E, ce, rfl, rfl, hx, hce, hcv, hcl, rfl, hL, rfl, rfl⟩, ?_⟩
    show Steps p.tables e below _ (((({ U with heap := s₂.heap, slotsUsed := s₂.slotsUsed } : State).setVm s₂.vm).setTop g).pushFrame (.throwing q))
    rw [← hs₂]
    exact hsteps
end Payer
section Calls
variable {p : Program} {l : Launch} {e : Env} {R : Room} {s : State} {m : MethodId} {args : Array Value} {below : List Frame} {meth : Method} {c : Code} {T : State} {locs : List Loc} {cells slots : Nat}
theorem vx_callV (X : Stand p l e R s m args below meth c T locs cells slots) (hexec : p.tables.exec = Jvm.exec) {own C : String} {index : Nat} {y : MethodName} {bytes : ByteArray} {maxL : Nat} {ret : Option FieldType}
    (hown : s.vm.findClass own = some m.cls) (hlink : (Cond.methodLink own index y).before args s = true) (hinst : (Cond.instanceMethod y).before args s = true) (hsel : (Cond.selects C y y).before args s = true)
    (hcode : (Cond.code y bytes maxL ret).before args s = true) (hy : y.cls ≠ "java/lang/invoke/MethodHandle" ∧ y.cls ≠ "java/lang/invoke/VarHandle")
    {W9 : Nat} {Pre : Pt → Array Value → Prop} {Post : Pt → Array Value → Option Value → Pt → Prop} {PostX : Pt → Array Value → Addr → Pt → Prop} (hK : vx_Back l R p e below s args y 3 W9 Pre Post PostX)
    {b : Addr} {cellB : Cell} (hcell : T.heap[b]? = some cellB) (hobj : cellB.vm.isStatics = false) (hcls : s.vm.findClass C = some cellB.cls)
    {g : JFrame} (hg : g.method = m) (hsize : g.locals.size = c.maxLocals) {argsL rest : List Value} (hlen : ∀ sig, parseMethodDescriptor y.desc = some sig → argsL.length = sig.parameters.length)
    (hstack : g.stack = argsL.reverse ++ .ref b :: rest) (hW : 2 * g.monitorRoom + (rest.map fun v => v.category).sum ≤ W9) (hdg : decode c.code g.pc = .ok (.invokevirtual index, 3))
    (hpre : ∀ vm₁, s.WarmedH vm₁ → Pre ⟨T.setVm vm₁, locs, cells, slots⟩ (Value.ref b :: argsL).toArray) :
    (∃ (v : Option Value) (vm₁ : Vm) (B : Pt), s.WarmedH vm₁ ∧ Stand p l e R s m args below meth c B.U B.locs B.cells B.slots ∧ Post ⟨T.setVm vm₁, locs, cells, slots⟩ (Value.ref b :: argsL).toArray v B ∧
      ∀ target, Steps p.tables e below (B.U.setTop { g with pc := g.pc + 3, stack := v.toList ++ rest }) target → Steps p.tables e below (T.setTop g) target) ∨
    (∃ (q : Addr) (vm₁ : Vm) (B : Pt), s.WarmedH vm₁ ∧ Stand p l e R s m args below meth c B.U B.locs B.cells B.slots ∧ PostX ⟨T.setVm vm₁, locs, cells, slots⟩ (Value.ref b :: argsL).toArray q B ∧
      Steps p.tables e below (T.setTop g) ((B.U.setTop { g with stack := rest }).pushFrame (.throwing q))) := by
  obtain ⟨mk, methM, hnamed, hmethM, hstM, habM⟩ := Cond.instanceMethod_spec hinst
  obtain ⟨methM', cM, hmethM', -, -, -, -, -, -, hsigM⟩ := Cond.code_spec hnamed hcode
  cases hmethM.symm.trans hmethM'
  obtain ⟨c2, r2, m2, q1, q2, q3, q4, kP, hkP, hkPi⟩ := Cond.selects_spec hsel
  cases hcls.symm.trans q1
  cases (State.methodFound?_of_named hnamed hy).symm.trans q2
  cases hnamed.symm.trans q3
  have hselP : selectMethod e.platform s.vm cellB.cls mk = .method mk := by rw [Launch.admits_selectMethod X.admits]; exact q4
  obtain ⟨vm₁, X₁, hstep₁⟩ := X.invokevirtual hexec hown hlink hnamed hmethM hstM hkP hkPi hy (a := b) (cell := cellB) hcell
    (fun z h => by rw [h] at hobj; cases hobj) hselP hmethM habM hkP hkPi (g := g) hg (argsL := argsL) (rest := rest) (hlen _ hsigM) hstack hdg
  rcases hK m meth c ⟨T.setVm vm₁, locs, cells, slots⟩ { g with stack := rest } (.invokevirtual index) mk (Value.ref b :: argsL).toArray X₁ hg hsize hdg hW (X₁.named hnamed) (hpre vm₁ X₁.warmed) with ⟨v, B, X', hpost, hsteps⟩ | ⟨q, B, X', hpost, hsteps⟩
  · exact Or.inl ⟨v, vm₁, B, X₁.warmed, X', hpost, fun target h => hstep₁ _ fun acts => by rw [doInvoke_state]; exact hsteps.trans h⟩
  · exact Or.inr ⟨q, vm₁, B, X₁.warmed, X', hpost, hstep₁ _ fun acts => by rw [doInvoke_state]; exact hsteps⟩
theorem vx_callS (X : Stand p l e R s m args below meth c T locs cells slots) (hexec : p.tables.exec = Jvm.exec) {own : String} {index : Nat} {y : MethodName} {bytes : ByteArray} {maxL : Nat} {ret : Option FieldType}
    (hown : s.vm.findClass own = some m.cls) (hlink : (Cond.methodLink own index y).before args s = true) (hstat : (Cond.static y).before args s = true) (hinit : (Cond.initialized y.cls).before args s = true)
    (hcode : (Cond.code y bytes maxL ret).before args s = true) (hy : y.cls ≠ "java/lang/invoke/MethodHandle" ∧ y.cls ≠ "java/lang/invoke/VarHandle")
    {W9 : Nat} {Pre : Pt → Array Value → Prop} {Post : Pt → Array Value → Option Value → Pt → Prop} {PostX : Pt → Array Value → Addr → Pt → Prop} (hK : vx_Back l R p e below s args y 3 W9 Pre Post PostX)
    {g : JFrame} (hg : g.method = m) (hsize : g.locals.size = c.maxLocals) {argsL rest : List Value} (hlen : ∀ sig, parseMethodDescriptor y.desc = some sig → argsL.length = sig.parameters.length)
    (hstack : g.stack = argsL.reverse ++ rest) (hW : 2 * g.monitorRoom + (rest.map fun v => v.category).sum ≤ W9) (hdg : decode c.code g.pc = .ok (.invokestatic index, 3))
    (hpre : ∀ vm₁, s.WarmedH vm₁ → Pre ⟨T.setVm vm₁, locs, cells, slots⟩ argsL.toArray) :
    (∃ (v : Option Value) (vm₁ : Vm) (B : Pt), s.WarmedH vm₁ ∧ Stand p l e R s m args below meth c B.U B.locs B.cells B.slots ∧ Post ⟨T.setVm vm₁, locs, cells, slots⟩ argsL.toArray v B ∧
      ∀ target, Steps p.tables e below (B.U.setTop { g with pc := g.pc + 3, stack := v.toList ++ rest }) target → Steps p.tables e below (T.setTop g) target) ∨
    (∃ (q : Addr) (vm₁ : Vm) (B : Pt), s.WarmedH vm₁ ∧ Stand p l e R s m args below meth c B.U B.locs B.cells B.slots ∧ PostX ⟨T.setVm vm₁, locs, cells, slots⟩ argsL.toArray q B ∧
      Steps p.tables e below (T.setTop g) ((B.U.setTop { g with stack := rest }).pushFrame (.throwing q))) := by
  obtain ⟨mk, hnamed⟩ := Cond.code_named hcode
  obtain ⟨methM, cM, hmethM, -, -, -, -, -, -, hsigM⟩ := Cond.code_spec hnamed hcode
  have hstatic : methM.isStatic = true := Cond.static_spec hnamed hmethM hstat
  obtain ⟨kP, hkP, -⟩ := className_of_methodNamed hnamed
  have hinitP : kP.init = .initialized := Cond.initialized_spec (findClass_of_methodNamed hnamed) hkP hinit
  obtain ⟨vm₁, X₁, hstep₁⟩ := X.invokestatic hexec hown hlink hnamed hmethM hstatic hkP hinitP hy (g := g) hg (argsL := argsL) (rest := rest) (hlen _ hsigM) hstack hdg
  rcases hK m meth c ⟨T.setVm vm₁, locs, cells, slots⟩ { g with stack := rest } (.invokestatic index) mk argsL.toArray X₁ hg hsize hdg hW (X₁.named hnamed) (hpre vm₁ X₁.warmed) with ⟨v, B, X', hpost, hsteps⟩ | ⟨q, B, X', hpost, hsteps⟩
  · exact Or.inl ⟨v, vm₁, B, X₁.warmed, X', hpost, fun target h => hstep₁ _ fun acts => by rw [doInvoke_state]; exact hsteps.trans h⟩
  · exact Or.inr ⟨q, vm₁, B, X₁.warmed, X', hpost, hstep₁ _ fun acts => by rw [doInvoke_state]; exact hsteps⟩
end Calls
theorem vx_cls {s : State} {T : State} {vm₁ : Vm} {E : String} {k : ClassId} (hW : s.WarmedH vm₁) (h : (T.setVm vm₁).vm.findClass E = some k) : s.vm.findClass E = some k := by
  have h1 : vm₁.findClass E = some k := h
  rw [hW.alike.findClass] at h1
  exact h1
/-- the method's frame g, with q thrown over it -/
def vx_W (p : Program) (l : Launch) (e : Env) (R : Room) (s : State) (m : MethodId) (args : Array Value) (below : List Frame) (meth : Method) (c : Code) (H : Heap) (locs : List Loc) (cells slots : Nat) (Q : State → Prop) (g : JFrame) (q : Addr) : Prop :=
  ∀ T : State, T.heap = H → Stand p l e R s m args below meth c T locs cells slots → ∃ t, Steps p.tables e below ((T.setTop g).pushFrame (.throwing q)) t ∧ Q t
def vx_Run (p : Program) (l : Launch) (e : Env) (R : Room) (s : State) (m : MethodId) (args : Array Value) (below : List Frame) (meth : Method) (c : Code) (H : Heap) (locs : List Loc) (cells slots mc ms : Nat) (g : JFrame) (rest : List Value) (Qa : State → Outcome → State → Prop) (XC : String → State → State → Prop) (free : Addr → Prop) : Prop :=
  ∀ T : State, T.heap = H → Stand p l e R s m args below meth c T locs cells slots →
    (∃ (v : Option Value) (st₀ t T' : State) (L : List Loc), st₀.heap = H ∧ Stand p l e R s m args below meth c T' (locs ++ L) (cells + mc) (slots + ms) ∧ (∀ q ∈ L, free q.base) ∧ T'.heap = t.heap ∧ T'.vm = t.vm ∧ Qa st₀ (.returned v) t ∧
      Goes p e below T g T' { g with pc := g.pc + 3, stack := v.toList ++ rest }) ∨
    (∃ (q : Addr) (st₀ t T' : State) (L : List Loc) (E : String) (ce : Cell), st₀.heap = H ∧ Stand p l e R s m args below meth c T' (locs ++ L) (cells + mc) (slots + ms) ∧ (∀ z ∈ L, free z.base) ∧ T'.heap = t.heap ∧ T'.vm = t.vm ∧ XC E st₀ t ∧ t.heap[q]? = some ce ∧ ce.vm = .none ∧ s.vm.findClass E = some ce.cls ∧
      Steps p.tables e below (T.setTop g) ((T'.setTop { g with stack := rest }).pushFrame (.throwing q)))
def vx_X {S : Type} (px : S → Prop) (B : String → S → State → Prop) (A : Nat → Prop) : String → State → State → Prop := fun E st t => ∃ u : S, px u ∧ B E u t ∧ va_F A st t
section Runs
variable {p : Program} {l : Launch} {e : Env} {R : Room} {s : State} {m : MethodId} {args : Array Value} {below : List Frame} {meth : Method} {c : Code} {H : Heap} {locs : List Loc} {cells slots : Nat}
variable {y : MethodName} {bytes cc : ByteArray} {maxL nL mc ms n index : Nat} {ret : Option FieldType} {ws : List Cond} {rm : Room} {Pc : Array Value → State → Prop} {Qc : Array Value → State → Outcome → State → Prop} {XC : String → State → State → Prop} {free : Addr → Prop} {Ts : List Cond} {own C : String} {b : Addr} {As rest : List Value} {g : JFrame}
theorem vx_callBack (cb : CallB R s args own index y bytes maxL ret ws rm mc ms n) (hM : vx_Met l y ws rm Pc Qc XC mc ms free) (hbl : FrameBlind Pc) : vx_Back l R p e below s args y 3 8 (PreOf R mc ms Pc) (PostOf Qc mc ms free) (vx_Post XC mc ms free) := by
  obtain ⟨hrc, hrs, hfr, hlo, hws, hcw, -, hini, -⟩ := cb
  exact vx_back (bytes := bytes) (maxL := maxL) (ret := ret) hM hbl hrc hrs hfr hlo hws hcw (fun a' U hW => word_at hW (Or.inl (by first | rfl | simp [Cond.onTables, Cond.keeps, Cond.steady])) hini)
theorem vx_runV (S : CallFix p m c cc nL s args Ts own) (hM : vx_Met l y ws rm Pc Qc XC mc ms free) (cw : CallW R s args own C index y bytes maxL ret ws rm mc ms n) (hp : PreV s H C b Pc As)
    (hg : g.method = m) (hn : As.length = n) (hsize : g.locals.size = nL) (hstack : g.stack = As.reverse ++ .ref b :: rest) (hW : 2 * g.monitorRoom + (rest.map fun v => v.category).sum ≤ 8) (hdg : decode cc g.pc = .ok (.invokevirtual index, 3)) (hf : cells + mc ≤ R.cells ∧ slots + ms ≤ R.slots) :
    vx_Run p l e R s m args below meth c H locs cells slots mc ms g rest (Qc (Value.ref b :: As).toArray) XC free := by
  have hK : vx_Back l R p e below s args y 3 8 (PreOf R mc ms Pc) (PostOf Qc mc ms free) (vx_Post XC mc ms free) := vx_callBack cw.1 hM hp.1
  obtain ⟨⟨-, -, -, -, -, -, hcode, -, hy, hlen, hl⟩, hin, hse⟩ := cw
  obtain ⟨hx, hb, hml, ho, -⟩ := S
  obtain ⟨-, ⟨cellB, hcB, hoB, hclB⟩, hPc⟩ := hp
  intro T hT X
  rcases vx_callV X hx (C := C) (bytes := bytes) (maxL := maxL) (ret := ret) ho hl hin hse hcode hy hK (by rw [hT]; exact hcB) hoB hclB hg (hsize.trans hml.symm) (argsL := As) (rest := rest) (fun sig h => hn.trans (hlen sig h)) hstack hW (by rw [hb]; exact hdg)
    (fun vm₁ hW₁ => ⟨hf.1, hf.2, hPc (T.setVm vm₁) hT hW₁⟩) with ⟨v, vm₁, ⟨U', l2, c2, s2⟩, hW₁, X', ⟨g', mk, t, L, e1, e2, hq, h1, hL, h2, h3⟩, st⟩ | ⟨q, vm₁, ⟨U', l2, c2, s2⟩, hW₁, X', ⟨g', mk, t, L, E, ce, e1, e2, hq, hce, hcv, hcl, h1, hL, h2, h3⟩, st⟩
  · dsimp only [Pt.U, Pt.locs, Pt.cells, Pt.slots] at X' e1 e2 h1 h2 h3 st
    subst h1; subst h2; subst h3
    exact Or.inl ⟨v, (T.setVm vm₁).calling g' mk (Value.ref b :: As).toArray, t, U', L, hT, X', hL, e1, e2, hq, st⟩
  · dsimp only [Pt.U, Pt.locs, Pt.cells, Pt.slots] at X' e1 e2 h1 h2 h3 st hcl
    subst h1; subst h2; subst h3
    exact Or.inr ⟨q, (T.setVm vm₁).calling g' mk (Value.ref b :: As).toArray, t, U', L, E, ce, hT, X', hL, e1, e2, hq, hce, hcv, vx_cls hW₁ hcl, st⟩
theorem vx_runS (S : CallFix p m c cc nL s args Ts own) (hM : vx_Met l y ws rm Pc Qc XC mc ms free) (cw : CallB R s args own index y bytes maxL ret ws rm mc ms n ∧ (Cond.static y).before args s = true) (hp : PreS s H Pc As)
    (hg : g.method = m) (hn : As.length = n) (hsize : g.locals.size = nL) (hstack : g.stack = As.reverse ++ rest) (hW : 2 * g.monitorRoom + (rest.map fun v => v.category).sum ≤ 8) (hdg : decode cc g.pc = .ok (.invokestatic index, 3)) (hf : cells + mc ≤ R.cells ∧ slots + ms ≤ R.slots) :
    vx_Run p l e R s m args below meth c H locs cells slots mc ms g rest (Qc As.toArray) XC free := by
  have hK : vx_Back l R p e below s args y 3 8 (PreOf R mc ms Pc) (PostOf Qc mc ms free) (vx_Post XC mc ms free) := vx_callBack cw.1 hM hp.1
  obtain ⟨⟨-, -, -, -, -, -, hcode, hini, hy, hlen, hl⟩, hstt⟩ := cw
  obtain ⟨hx, hb, hml, ho, -⟩ := S
  intro T hT X
  rcases vx_callS X hx (bytes := bytes) (maxL := maxL) (ret := ret) ho hl hstt hini hcode hy hK hg (hsize.trans hml.symm) (argsL := As) (rest := rest) (fun sig h => hn.trans (hlen sig h)) hstack hW (by rw [hb]; exact hdg)
    (fun vm₁ hW₁ => ⟨hf.1, hf.2, hp.2 (T.setVm vm₁) hT hW₁⟩) with ⟨v, vm₁, ⟨U', l2, c2, s2⟩, hW₁, X', ⟨g', mk, t, L, e1, e2, hq, h1, hL, h2, h3⟩, st⟩ | ⟨q, vm₁, ⟨U', l2, c2, s2⟩, hW₁, X', ⟨g', mk, t, L, E, ce, e1, e2, hq, hce, hcv, hcl, h1, hL, h2, h3⟩, st⟩
  · dsimp only [Pt.U, Pt.locs, Pt.cells, Pt.slots] at X' e1 e2 h1 h2 h3 st
    subst h1; subst h2; subst h3
    exact Or.inl ⟨v, (T.setVm vm₁).calling g' mk As.toArray, t, U', L, hT, X', hL, e1, e2, hq, st⟩
  · dsimp only [Pt.U, Pt.locs, Pt.cells, Pt.slots] at X' e1 e2 h1 h2 h3 st hcl
    subst h1; subst h2; subst h3
    exact Or.inr ⟨q, (T.setVm vm₁).calling g' mk As.toArray, t, U', L, E, ce, hT, X', hL, e1, e2, hq, hce, hcv, vx_cls hW₁ hcl, st⟩
end Runs
section Rows
variable {p : Program} {l : Launch} {e : Env} {R : Room} {s : State} {m : MethodId} {args : Array Value} {below : List Frame} {meth : Method} {c : Code} {H : Heap} {locs : List Loc} {cells slots : Nat} {Q : State → Prop}
variable {mc ms : Nat} {free : Addr → Prop} {A0 A1 : Nat → Prop} {H0 : Heap} {a : Array Value} {pc : Nat} {ls : Array Slot} {st0 rest : List Value}
theorem vx_keep {st₀ t T' : State} {L : List Loc} (h0 : st₀.heap = H) (e1 : T'.heap = t.heap) (hS : va_S A0 H0 H locs) (hA : ∀ q, q < H.size → A1 q → A0 q) (hf : ∀ q, free q → A0 q) (hL : ∀ q ∈ L, free q.base) (hF : va_F A1 st₀ t) :
    H.size ≤ T'.heap.size ∧ (∀ q : Nat, q < H.size → ¬ A1 q → T'.heap[q]? = H[q]?) ∧ va_S A0 H0 T'.heap (locs ++ L) := by
  obtain ⟨hz, hk⟩ := hF
  rw [h0] at hz hk
  exact ⟨by rw [e1]; exact hz, fun q h1 h2 => by rw [e1]; exact hk q h1 h2,
    ⟨Nat.le_trans hS.1 (by rw [e1]; exact hz), fun q h1 h2 => by rw [e1, hk q (Nat.lt_of_lt_of_le h1 hS.1) (fun z => h2 (hA q (Nat.lt_of_lt_of_le h1 hS.1) z))]; exact hS.2.1 q h1 h2, fun q hq => by
      rcases List.mem_append.mp hq with h | h
      · exact hS.2.2 q h
      · exact hf _ (hL q h)⟩⟩
theorem vx_calli {S SX : Type} {post : Int32 → S → Prop} {px : SX → Prop} {B : S → State → Prop} {BX : String → SX → State → Prop} {AX : Nat → Prop} (hr : vx_Run p l e R s m args below meth c H locs cells slots mc ms (F0 m pc ls st0) rest (va_Qi post B A1 a) (vx_X px BX AX) free) (hS : va_S A0 H0 H locs) (hA : ∀ q, q < H.size → A1 q → A0 q) (hf : ∀ q, free q → A0 q) (hAX : ∀ q, q < H.size → AX q → A0 q)
    (kx : ∀ (E : String) (ce : Cell) (q9 : Addr) (u : SX) (t : State) (H1 : Heap) (locs1 : List Loc), t.heap = H1 → s.vm.Alike t.vm → px u → BX E u t → H.size ≤ H1.size → (∀ q : Nat, q < H.size → ¬ AX q → H1[q]? = H[q]?) → va_S A0 H0 H1 locs1 → H1[q9]? = some ce → ce.vm = .none → s.vm.findClass E = some ce.cls → vx_W p l e R s m args below meth c H1 locs1 (cells + mc) (slots + ms) Q (F0 m pc ls rest) q9)
    (kk : ∀ (r : Int32) (u : S) (t : State) (H1 : Heap) (locs1 : List Loc), t.heap = H1 → s.vm.Alike t.vm → post r u → B u t → H.size ≤ H1.size → (∀ q : Nat, q < H.size → ¬ A1 q → H1[q]? = H[q]?) → va_S A0 H0 H1 locs1 → W p l e R s m args below meth c H1 locs1 (cells + mc) (slots + ms) Q (F0 m (pc + 3) ls (.int r :: rest))) : W p l e R s m args below meth c H locs cells slots Q (F0 m pc ls st0) := by
  intro T hT X
  rcases hr T hT X with ⟨v, st₀, t, T', L, h0, X', hL, e1, e2, ⟨⟨r, u, hv, hp, hb⟩, hF⟩, st⟩ | ⟨q, st₀, t, T', L, E, ce, h0, X', hL, e1, e2, ⟨u, hp, hb, hF⟩, hce, hcv, hcl, st⟩
  · cases hv
    obtain ⟨k1, k2, k3⟩ := vx_keep h0 e1 hS hA hf hL hF
    obtain ⟨t2, a1, b1⟩ := kk r u t T'.heap (locs ++ L) e1.symm (by rw [← e2]; exact X'.warmed.alike) hp hb k1 k2 k3 T' rfl X'
    exact ⟨t2, st t2 a1, b1⟩
  · obtain ⟨k1, k2, k3⟩ := vx_keep h0 e1 hS hAX hf hL hF
    obtain ⟨t2, a1, b1⟩ := kx E ce q u t T'.heap (locs ++ L) e1.symm (by rw [← e2]; exact X'.warmed.alike) hp hb k1 k2 k3 (by rw [e1]; exact hce) hcv hcl T' rfl X'
    exact ⟨t2, st.trans a1, b1⟩
theorem vx_calll {S SX : Type} {post : Int64 → S → Prop} {px : SX → Prop} {B : S → State → Prop} {BX : String → SX → State → Prop} {AX : Nat → Prop} (hr : vx_Run p l e R s m args below meth c H locs cells slots mc ms (F0 m pc ls st0) rest (va_Ql post B A1 a) (vx_X px BX AX) free) (hS : va_S A0 H0 H locs) (hA : ∀ q, q < H.size → A1 q → A0 q) (hf : ∀ q, free q → A0 q) (hAX : ∀ q, q < H.size → AX q → A0 q)
    (kx : ∀ (E : String) (ce : Cell) (q9 : Addr) (u : SX) (t : State) (H1 : Heap) (locs1 : List Loc), t.heap = H1 → s.vm.Alike t.vm → px u → BX E u t → H.size ≤ H1.size → (∀ q : Nat, q < H.size → ¬ AX q → H1[q]? = H[q]?) → va_S A0 H0 H1 locs1 → H1[q9]? = some ce → ce.vm = .none → s.vm.findClass E = some ce.cls → vx_W p l e R s m args below meth c H1 locs1 (cells + mc) (slots + ms) Q (F0 m pc ls rest) q9)
    (kk : ∀ (r : Int64) (u : S) (t : State) (H1 : Heap) (locs1 : List Loc), t.heap = H1 → s.vm.Alike t.vm → post r u → B u t → H.size ≤ H1.size → (∀ q : Nat, q < H.size → ¬ A1 q → H1[q]? = H[q]?) → va_S A0 H0 H1 locs1 → W p l e R s m args below meth c H1 locs1 (cells + mc) (slots + ms) Q (F0 m (pc + 3) ls (.long r :: rest))) : W p l e R s m args below meth c H locs cells slots Q (F0 m pc ls st0) := by
  intro T hT X
  rcases hr T hT X with ⟨v, st₀, t, T', L, h0, X', hL, e1, e2, ⟨⟨r, u, hv, hp, hb⟩, hF⟩, st⟩ | ⟨q, st₀, t, T', L, E, ce, h0, X', hL, e1, e2, ⟨u, hp, hb, hF⟩, hce, hcv, hcl, st⟩
  · cases hv
    obtain ⟨k1, k2, k3⟩ := vx_keep h0 e1 hS hA hf hL hF
    obtain ⟨t2, a1, b1⟩ := kk r u t T'.heap (locs ++ L) e1.symm (by rw [← e2]; exact X'.warmed.alike) hp hb k1 k2 k3 T' rfl X'
    exact ⟨t2, st t2 a1, b1⟩
  · obtain ⟨k1, k2, k3⟩ := vx_keep h0 e1 hS hAX hf hL hF
    obtain ⟨t2, a1, b1⟩ := kx E ce q u t T'.heap (locs ++ L) e1.symm (by rw [← e2]; exact X'.warmed.alike) hp hb k1 k2 k3 (by rw [e1]; exact hce) hcv hcl T' rfl X'
    exact ⟨t2, st.trans a1, b1⟩
theorem vx_callf {S SX : Type} {post : UInt32 → S → Prop} {px : SX → Prop} {B : S → State → Prop} {BX : String → SX → State → Prop} {AX : Nat → Prop} (hr : vx_Run p l e R s m args below meth c H locs cells slots mc ms (F0 m pc ls st0) rest (va_Qf post B A1 a) (vx_X px BX AX) free) (hS : va_S A0 H0 H locs) (hA : ∀ q, q < H.size → A1 q → A0 q) (hf : ∀ q, free q → A0 q) (hAX : ∀ q, q < H.size → AX q → A0 q)
    (kx : ∀ (E : String) (ce : Cell) (q9 : Addr) (u : SX) (t : State) (H1 : Heap) (locs1 : List Loc), t.heap = H1 → s.vm.Alike t.vm → px u → BX E u t → H.size ≤ H1.size → (∀ q : Nat, q < H.size → ¬ AX q → H1[q]? = H[q]?) → va_S A0 H0 H1 locs1 → H1[q9]? = some ce → ce.vm = .none → s.vm.findClass E = some ce.cls → vx_W p l e R s m args below meth c H1 locs1 (cells + mc) (slots + ms) Q (F0 m pc ls rest) q9)
    (kk : ∀ (r : UInt32) (u : S) (t : State) (H1 : Heap) (locs1 : List Loc), t.heap = H1 → s.vm.Alike t.vm → post r u → B u t → H.size ≤ H1.size → (∀ q : Nat, q < H.size → ¬ A1 q → H1[q]? = H[q]?) → va_S A0 H0 H1 locs1 → W p l e R s m args below meth c H1 locs1 (cells + mc) (slots + ms) Q (F0 m (pc + 3) ls (.float r :: rest))) : W p l e R s m args below meth c H locs cells slots Q (F0 m pc ls st0) := by
  intro T hT X
  rcases hr T hT X with ⟨v, st₀, t, T', L, h0, X', hL, e1, e2, ⟨⟨r, u, hv, hp, hb⟩, hF⟩, st⟩ | ⟨q, st₀, t, T', L, E, ce, h0, X', hL, e1, e2, ⟨u, hp, hb, hF⟩, hce, hcv, hcl, st⟩
  · cases hv
    obtain ⟨k1, k2, k3⟩ := vx_keep h0 e1 hS hA hf hL hF
    obtain ⟨t2, a1, b1⟩ := kk r u t T'.heap (locs ++ L) e1.symm (by rw [← e2]; exact X'.warmed.alike) hp hb k1 k2 k3 T' rfl X'
    exact ⟨t2, st t2 a1, b1⟩
  · obtain ⟨k1, k2, k3⟩ := vx_keep h0 e1 hS hAX hf hL hF
    obtain ⟨t2, a1, b1⟩ := kx E ce q u t T'.heap (locs ++ L) e1.symm (by rw [← e2]; exact X'.warmed.alike) hp hb k1 k2 k3 (by rw [e1]; exact hce) hcv hcl T' rfl X'
    exact ⟨t2, st.trans a1, b1⟩
theorem vx_calld {S SX : Type} {post : UInt64 → S → Prop} {px : SX → Prop} {B : S → State → Prop} {BX : String → SX → State → Prop} {AX : Nat → Prop} (hr : vx_Run p l e R s m args below meth c H locs cells slots mc ms (F0 m pc ls st0) rest (va_Qd post B A1 a) (vx_X px BX AX) free) (hS : va_S A0 H0 H locs) (hA : ∀ q, q < H.size → A1 q → A0 q) (hf : ∀ q, free q → A0 q) (hAX : ∀ q, q < H.size → AX q → A0 q)
    (kx : ∀ (E : String) (ce : Cell) (q9 : Addr) (u : SX) (t : State) (H1 : Heap) (locs1 : List Loc), t.heap = H1 → s.vm.Alike t.vm → px u → BX E u t → H.size ≤ H1.size → (∀ q : Nat, q < H.size → ¬ AX q → H1[q]? = H[q]?) → va_S A0 H0 H1 locs1 → H1[q9]? = some ce → ce.vm = .none → s.vm.findClass E = some ce.cls → vx_W p l e R s m args below meth c H1 locs1 (cells + mc) (slots + ms) Q (F0 m pc ls rest) q9)
    (kk : ∀ (r : UInt64) (u : S) (t : State) (H1 : Heap) (locs1 : List Loc), t.heap = H1 → s.vm.Alike t.vm → post r u → B u t → H.size ≤ H1.size → (∀ q : Nat, q < H.size → ¬ A1 q → H1[q]? = H[q]?) → va_S A0 H0 H1 locs1 → W p l e R s m args below meth c H1 locs1 (cells + mc) (slots + ms) Q (F0 m (pc + 3) ls (.double r :: rest))) : W p l e R s m args below meth c H locs cells slots Q (F0 m pc ls st0) := by
  intro T hT X
  rcases hr T hT X with ⟨v, st₀, t, T', L, h0, X', hL, e1, e2, ⟨⟨r, u, hv, hp, hb⟩, hF⟩, st⟩ | ⟨q, st₀, t, T', L, E, ce, h0, X', hL, e1, e2, ⟨u, hp, hb, hF⟩, hce, hcv, hcl, st⟩
  · cases hv
    obtain ⟨k1, k2, k3⟩ := vx_keep h0 e1 hS hA hf hL hF
    obtain ⟨t2, a1, b1⟩ := kk r u t T'.heap (locs ++ L) e1.symm (by rw [← e2]; exact X'.warmed.alike) hp hb k1 k2 k3 T' rfl X'
    exact ⟨t2, st t2 a1, b1⟩
  · obtain ⟨k1, k2, k3⟩ := vx_keep h0 e1 hS hAX hf hL hF
    obtain ⟨t2, a1, b1⟩ := kx E ce q u t T'.heap (locs ++ L) e1.symm (by rw [← e2]; exact X'.warmed.alike) hp hb k1 k2 k3 (by rw [e1]; exact hce) hcv hcl T' rfl X'
    exact ⟨t2, st.trans a1, b1⟩
theorem vx_callv {S SX : Type} {post : S → Prop} {px : SX → Prop} {B : S → State → Prop} {BX : String → SX → State → Prop} {AX : Nat → Prop} (hr : vx_Run p l e R s m args below meth c H locs cells slots mc ms (F0 m pc ls st0) rest (va_Qv post B A1 a) (vx_X px BX AX) free) (hS : va_S A0 H0 H locs) (hA : ∀ q, q < H.size → A1 q → A0 q) (hf : ∀ q, free q → A0 q) (hAX : ∀ q, q < H.size → AX q → A0 q)
    (kx : ∀ (E : String) (ce : Cell) (q9 : Addr) (u : SX) (t : State) (H1 : Heap) (locs1 : List Loc), t.heap = H1 → s.vm.Alike t.vm → px u → BX E u t → H.size ≤ H1.size → (∀ q : Nat, q < H.size → ¬ AX q → H1[q]? = H[q]?) → va_S A0 H0 H1 locs1 → H1[q9]? = some ce → ce.vm = .none → s.vm.findClass E = some ce.cls → vx_W p l e R s m args below meth c H1 locs1 (cells + mc) (slots + ms) Q (F0 m pc ls rest) q9)
    (kk : ∀ (u : S) (t : State) (H1 : Heap) (locs1 : List Loc), t.heap = H1 → s.vm.Alike t.vm → post u → B u t → H.size ≤ H1.size → (∀ q : Nat, q < H.size → ¬ A1 q → H1[q]? = H[q]?) → va_S A0 H0 H1 locs1 → W p l e R s m args below meth c H1 locs1 (cells + mc) (slots + ms) Q (F0 m (pc + 3) ls (rest))) : W p l e R s m args below meth c H locs cells slots Q (F0 m pc ls st0) := by
  intro T hT X
  rcases hr T hT X with ⟨v, st₀, t, T', L, h0, X', hL, e1, e2, ⟨⟨u, hv, hp, hb⟩, hF⟩, st⟩ | ⟨q, st₀, t, T', L, E, ce, h0, X', hL, e1, e2, ⟨u, hp, hb, hF⟩, hce, hcv, hcl, st⟩
  · cases hv
    obtain ⟨k1, k2, k3⟩ := vx_keep h0 e1 hS hA hf hL hF
    obtain ⟨t2, a1, b1⟩ := kk u t T'.heap (locs ++ L) e1.symm (by rw [← e2]; exact X'.warmed.alike) hp hb k1 k2 k3 T' rfl X'
    exact ⟨t2, st t2 a1, b1⟩
  · obtain ⟨k1, k2, k3⟩ := vx_keep h0 e1 hS hAX hf hL hF
    obtain ⟨t2, a1, b1⟩ := kx E ce q u t T'.heap (locs ++ L) e1.symm (by rw [← e2]; exact X'.warmed.alike) hp hb k1 k2 k3 (by rw [e1]; exact hce) hcv hcl T' rfl X'
    exact ⟨t2, st.trans a1, b1⟩
/-- caught by the row x of this method's table; the rows ahead don't take it -/
theorem vx_catch {own name : String} {E : String} {ce : Cell} {q : Addr} (hown : s.vm.findClass own = some m.cls) (pre : List ExceptionTableEntry) (x : ExceptionTableEntry) (suf : List ExceptionTableEntry) (hsplit : c.exceptionTable.toList = pre ++ x :: suf)
    (hpass : ∀ z ∈ pre, covers z pc = false ∨ (z.catchType ≠ 0 ∧ ∃ nm : String, (Cond.classLink own z.catchType nm).before args s = true ∧ va_Nc E nm s)) (hx : covers x pc = true) (h0 : x.catchType ≠ 0)
    (hlink : (Cond.classLink own x.catchType name).before args s = true) (hcast : (Cond.castable E name).before args s = true) (hcell : H[q]? = some ce) (hv : ce.vm = .none) (hcl : s.vm.findClass E = some ce.cls)
    (kk : W p l e R s m args below meth c H locs cells slots Q (F0 m x.handlerPc ls [.ref q])) : vx_W p l e R s m args below meth c H locs cells slots Q (F0 m pc ls rest) q := by
  intro T hT X
  have hpl : e.platform.magicAccessors = ({} : Platform).magicAccessors := by rw [X.admits.platform]
  obtain ⟨c3, c4, hc3, hc4, hasg⟩ := Cond.castable_spec hcast
  cases Option.some.inj (hc3.symm.trans hcl)
  obtain ⟨c5, hc5, hcl5⟩ := Cond.classLink_spec hown hlink e.platform hpl
  cases Option.some.inj (hc4.symm.trans hc5)
  obtain ⟨vm', X', st⟩ := X.thenCaughtThrough q (g := F0 m pc ls rest) rfl (Steps.refl _) (by rw [hT]; exact hcell) (by rw [hv]; rfl) (by obtain ⟨k9, h9, -⟩ := Vm.findClass_spec hcl; exact ⟨k9, h9⟩) pre x suf hsplit
    (fun z hz => by
      rcases hpass z hz with h | ⟨hz0, nm, hl1, hn1⟩
      · exact Or.inl h
      · obtain ⟨c6, hc6, hcl6⟩ := Cond.classLink_spec hown hl1 e.platform hpl
        obtain ⟨a8, b8, h1, h2, h3⟩ := hn1
        cases Option.some.inj (h1.symm.trans hcl)
        cases Option.some.inj (h2.symm.trans hc6)
        exact Or.inr ⟨hz0, _, hcl6, h3⟩) hx (Or.inr ⟨h0, c4, hcl5, hasg⟩)
  obtain ⟨t, a1, b1⟩ := kk (T.setVm vm') hT X'
  exact ⟨t, st.trans a1, b1⟩
end Rows
section Ends
variable {p : Program} {l : Launch} {e : Env} {R : Room} {s : State} {m : MethodId} {args : Array Value} {below : List Frame} {meth : Method} {c : Code} {H : Heap} {locs : List Loc} {cells slots : Nat} {Q : State → Prop}
variable {mc ms : Nat} {free : Addr → Prop} {A0 A1 : Nat → Prop} {H0 : Heap} {a : Array Value} {ls : Array Slot} {st0 rest : List Value}
variable {Qc : Array Value → State → Outcome → State → Prop} {XC : String → State → State → Prop}
/-- what a body that may throw owes at its end -/
def vx_MQ (below : List Frame) (Qc : Array Value → State → Outcome → State → Prop) (XC : String → State → State → Prop) (a : Array Value) (s : State) (mc ms : Nat) (free : Addr → Prop) : State → Prop := fun t =>
  ∃ o, t.status = .running ∧ Ended t below o ∧ vx_Q Qc XC mc ms free a s o t
theorem vx_ret {g : JFrame} {mc ms : Nat} (k : W p l e R s m args below meth c H locs cells slots (MQ below Qc args s mc ms free) g) : W p l e R s m args below meth c H locs cells slots (vx_MQ below Qc XC args s mc ms free) g := by
  intro T hT X
  obtain ⟨t, a1, o, b1, b2, b3, b4⟩ := k T hT X
  exact ⟨t, a1, o, b1, b2, Or.inl ⟨b3, b4⟩⟩
/-- not caught here: it goes on to the caller -/
theorem vx_widen {g : JFrame} {q : Addr} {k n : Nat} (h1 : cells ≤ k) (h2 : slots ≤ n) (kk : vx_W p l e R s m args below meth c H locs k n Q g q) : vx_W p l e R s m args below meth c H locs cells slots Q g q := fun T hT X => kk T hT (stand_widen X h1 h2)
theorem vx_out {pc : Nat} {E : String} {ce : Cell} {q : Addr} {mc ms : Nat} (hout : ∀ x ∈ c.exceptionTable.toList, covers x pc = false) (hlocks : meth.locks = false) (hcell : H[q]? = some ce) (hv : ce.vm = .none) (hcl : s.vm.findClass E = some ce.cls)
    (hx : ∀ t : State, t.heap = H → s.vm.Alike t.vm → XC E s t) (hf : ∀ z ∈ locs, free z.base) (hc : cells ≤ mc) (hs : slots ≤ ms) :
    vx_W p l e R s m args below meth c H locs cells slots (vx_MQ below Qc XC args s mc ms free) (F0 m pc ls rest) q := by
  intro T hT X
  obtain ⟨st1, hrun, hend, hW, hsm⟩ := X.leaveThrown q (g := F0 m pc ls rest) rfl rfl rfl hout hlocks
  have hcell9 : (T.setFrames (.throwing q :: below)).heap[q]? = some ce := by
    show T.heap[q]? = some ce
    rw [hT]; exact hcell
  exact ⟨_, st1, .threw q, hrun, hend, Or.inr ⟨q, rfl, E, ce, locs, hx _ hT hW.alike, hcell9, hv, hcl, hW, hsm.mono hc hs, hf⟩⟩
theorem vx_frame {U : State} {k n : Nat} (h : s.sameButNew ({ U with vm := s.vm } : State) locs k n) : s.heap.size ≤ U.heap.size ∧ ∀ q : Nat, q < s.heap.size → (∀ z ∈ locs, z.base ≠ q) → U.heap[q]? = s.heap[q]? := by
  obtain ⟨-, h2, -, -, -, h6⟩ := h
  refine ⟨h2, fun q hq hz => ?_⟩
  obtain ⟨c9, e1, e2, e3, e4⟩ := h6 q _ (Array.getElem?_eq_getElem hq)
  have hs : c9.slots = (s.heap[q]).slots := Array.ext_getElem? fun i => e4 i fun hm => hz _ hm rfl
  have h9 : c9 = s.heap[q] := by
    rw [hs] at e2
    exact e2
  have e5 : U.heap[q]? = some c9 := e1
  rw [e5, h9, Array.getElem?_eq_getElem hq]
/-- the words of a throw but the four that speak of the heap -/
def vx_no (w : Cond) : Bool := decide (w ≠ .isRef (.static Bundle.tN "UNASSIGNED_STACK" Bundle.steD)) && decide (w ≠ .isRef (.static Bundle.tN "SUPPRESSED_SENTINEL" Bundle.listD)) && decide (w ≠ .laysStatic Bundle.tN "UNASSIGNED_STACK" Bundle.steD) && decide (w ≠ .laysStatic Bundle.tN "SUPPRESSED_SENTINEL" Bundle.listD)
def vx_at0 (own : String) (ic : Nat) (X : String) (names : List String) : List Cond := (Bundle.ownAtoms0 own ic X names).filter vx_no
def vx_atS (own : String) (ic : Nat) (X : String) (names : List String) : List Cond := (Bundle.ownAtoms own ic X names).filter vx_no
/-- a word that the tables alone decide, or a good one -/
def vx_ot (w : Cond) : Bool := w.onTables || goodWord w
theorem vx_ot_at {args a' : Array Value} {s U : State} {w : Cond} (hW : s.WarmedH U.vm) (hvm : s.vm = U.vm) (hg : vx_ot w = true) (h : w.before args s = true) : w.before a' U = true := by
  simp only [vx_ot, Bool.or_eq_true] at hg
  rcases hg with hg | hg
  · exact va_tabs hg hvm h
  · exact word_at hW (good_of_word hg) h
/-- a list's words: the good ones out of the method's own list, the others by premises of their own -/
theorem vx_hat {args : Array Value} {s : State} {L B : List Cond} (h1 : ∀ w ∈ L.filter goodWord, w.before args s = true) (h2 : ∀ w ∈ L.filter (fun w => !goodWord w), w ∈ B) (h3 : ∀ w ∈ B, w.before args s = true) : ∀ w ∈ L, w.before args s = true := by
  intro w hw
  by_cases g : goodWord w = true
  · exact h1 w (List.mem_filter.mpr ⟨hw, g⟩)
  · refine h3 w (h2 w (List.mem_filter.mpr ⟨hw, ?_⟩))
    show (!goodWord w) = true
    cases hgw : goodWord w
    · rfl
    · exact absurd hgw g
theorem vx_c {args : Array Value} {s : State} {w : Cond} {B : List Cond} (h : w.before args s = true) (t : ∀ w ∈ B, w.before args s = true) : ∀ w' ∈ w :: B, w'.before args s = true := fun w' h' => (List.mem_cons.mp h').elim (fun e => by rw [e]; exact h) (t w')
theorem vx_n {args : Array Value} {s : State} : ∀ w ∈ ([] : List Cond), w.before args s = true := fun _ h => nomatch h
theorem vx_own {args : Array Value} {s : State} {L : List Cond} (h1 : ∀ w ∈ L.filter vx_no, w.before args s = true)
    (hU : (Cond.isRef (.static Bundle.tN "UNASSIGNED_STACK" Bundle.steD)).before args s = true) (hN : (Cond.isRef (.static Bundle.tN "SUPPRESSED_SENTINEL" Bundle.listD)).before args s = true)
    (lU : (Cond.laysStatic Bundle.tN "UNASSIGNED_STACK" Bundle.steD).before args s = true) (lN : (Cond.laysStatic Bundle.tN "SUPPRESSED_SENTINEL" Bundle.listD).before args s = true) : ∀ w ∈ L, w.before args s = true := by
  intro w hw
  by_cases e1 : w = .isRef (.static Bundle.tN "UNASSIGNED_STACK" Bundle.steD)
  · rw [e1]; exact hU
  · by_cases e2 : w = .isRef (.static Bundle.tN "SUPPRESSED_SENTINEL" Bundle.listD)
    · rw [e2]; exact hN
    · by_cases e3 : w = .laysStatic Bundle.tN "UNASSIGNED_STACK" Bundle.steD
      · rw [e3]; exact lU
      · by_cases e4 : w = .laysStatic Bundle.tN "SUPPRESSED_SENTINEL" Bundle.listD
        · rw [e4]; exact lN
        · exact h1 w (List.mem_filter.mpr ⟨hw, by unfold vx_no; rw [decide_eq_true e1, decide_eq_true e2, decide_eq_true e3, decide_eq_true e4]; rfl⟩)
/-- where a static field lies, its class's statics cell in H -/
def vx_L (C n d : String) (A : Nat → Prop) (U : State) (H : Heap) : Prop := ∃ (c : ClassId) (k : Class) (i : Nat) (f : Field) (a : Nat) (cell : Cell), U.vm.findClass C = some c ∧ U.fieldFound? C n d = some (c, k, i, f) ∧ f.isStatic = true ∧ k.statics = some a ∧ H[a]? = some cell ∧ cell.vm.isStatics = true ∧ cell.cls = c ∧ f.slot < cell.slots.size ∧ k.staticTypes[f.slot]? = some f.type ∧ ¬ A a
theorem vx_L.moved {C n d : String} {A : Nat → Prop} {u U : State} {H : Heap} (hvm : u.vm.Alike U.vm) (h : vx_L C n d A u H) : vx_L C n d A U H := by
  obtain ⟨c, k, i, f, a, cell, h1, h2, h3, h4, h5, h6, h7, h8, h9, h10⟩ := h
  obtain ⟨k', hi', he⟩ := State.fieldFound?_setVm hvm h2
  exact ⟨c, k', i, f, a, cell, by rw [hvm.findClass]; exact h1, hi', h3, by rw [he]; exact h4, h5, h6, h7, h8, by rw [he]; exact h9, h10⟩
theorem vx_L.kept {C n d : String} {A : Nat → Prop} {U : State} {H H1 : Heap} (h : vx_L C n d A U H) (hq : ∀ a : Nat, a < H.size → ¬ A a → H1[a]? = H[a]?) : vx_L C n d A U H1 := by
  obtain ⟨c, k, i, f, a, cell, h1, h2, h3, h4, h5, h6, h7, h8, h9, h10⟩ := h
  exact ⟨c, k, i, f, a, cell, h1, h2, h3, h4, by rw [hq a (Array.getElem?_eq_some_iff.mp h5).1 h10]; exact h5, h6, h7, h8, h9, h10⟩
theorem vx_L.narrow {C n d : String} {A B : Nat → Prop} {U : State} {H : Heap} (h : vx_L C n d A U H) (hAB : ∀ q, B q → A q) : vx_L C n d B U H := by
  obtain ⟨c, k, i, f, a, cell, h1, h2, h3, h4, h5, h6, h7, h8, h9, h10⟩ := h
  exact ⟨c, k, i, f, a, cell, h1, h2, h3, h4, h5, h6, h7, h8, h9, fun z => h10 (hAB _ z)⟩
theorem vx_L.word {C n d : String} {A : Nat → Prop} {s : State} {args : Array Value} (h : vx_L C n d A s s.heap) : (Cond.laysStatic C n d).before args s = true := by
  obtain ⟨c, k, i, f, a, cell, h1, h2, h3, h4, h5, h6, h7, h8, h9, -⟩ := h
  show (Cond.laysStatic C n d).holds args s none s [] = true
  exact Cond.laysStatic_of h1 h2 h3 h4 h5 h6 h7 h8 h9
/-- .. and what it holds: null or some reference -/
def vx_Zq (C n d : String) (A : Nat → Prop) (U : State) (H : Heap) : Prop := va_Zq C n d A U H ∧ vx_L C n d A U H
theorem vx_Zq.moved {C n d : String} {A : Nat → Prop} {u U : State} {H : Heap} (hvm : u.vm.Alike U.vm) (h : vx_Zq C n d A u H) : vx_Zq C n d A U H := ⟨va_Zq.moved hvm h.1, vx_L.moved hvm h.2⟩
theorem vx_Zq.kept {C n d : String} {A : Nat → Prop} {U : State} {H H1 : Heap} (h : vx_Zq C n d A U H) (hq : ∀ a : Nat, a < H.size → ¬ A a → H1[a]? = H[a]?) : vx_Zq C n d A U H1 := ⟨va_Zq.kept h.1 hq, vx_L.kept h.2 hq⟩
theorem vx_Zq.narrow {C n d : String} {A B : Nat → Prop} {U : State} {H : Heap} (h : vx_Zq C n d A U H) (hAB : ∀ q, B q → A q) : vx_Zq C n d B U H := ⟨va_Zq.narrow h.1 hAB, vx_L.narrow h.2 hAB⟩
theorem vx_Zqof {args : Array Value} {s : State} {C n d : String} {A : Nat → Prop} (hl : (Cond.laysStatic C n d).before args s = true) (hini : (Cond.initialized C).before args s = true) (h : (Cond.isRef (.static C n d)).before args s = true) (hA : ∀ a : Nat, a < s.heap.size → ¬ A a) : vx_Zq C n d A s s.heap := by
  refine ⟨va_Zqof hl hini h hA, ?_⟩
  obtain ⟨c, k, i, f, a, cell, h1, h2, h3, h4, h5, h6, h7, h8, h9⟩ := Cond.laysStatic_spec hl
  exact ⟨c, k, i, f, a, cell, h1, h2, h3, h4, h5, h6, h7, h8, h9, hA a (Array.getElem?_eq_some_iff.mp h5).1⟩
theorem vx_isRef {C n d : String} {v : Value} {A : Nat → Prop} {s : State} {args : Array Value} (h : va_Z C n d v A s s.heap) (hv : v.isRef = true) : (Cond.isRef (.static C n d)).before args s = true := by
  obtain ⟨cf, kf, fi, f, a, cell, h1, h2, h3, h4, h5, h6, h7, -⟩ := h
  have he : (Term.static C n d).eval args s none [] s = some v := by
    simp [Term.eval, State.fieldNamed?, h1, h2, h4, h5, h6, h7]
  simp only [Cond.before, Cond.holds, Cond.value, he]
  cases v <;> simp_all [Value.isRef]
theorem vx_isRefq {C n d : String} {A : Nat → Prop} {s : State} {args : Array Value} (h : va_Zq C n d A s s.heap) : (Cond.isRef (.static C n d)).before args s = true := by
  rcases h with h | ⟨t, h⟩
  · exact vx_isRef h rfl
  · exact vx_isRef h rfl
/-- the same frame, seen from here: as if the method were called anew in this heap -/
theorem vx_rebase {T : State} (X : Stand p l e R s m args below meth c T locs cells slots) {R' : Room} (hf : R'.frames ≤ R.frames) (hl : R'.locals ≤ R.locals) (hc : cells + R'.cells ≤ R.cells) (hs : slots + R'.slots ≤ R.slots) :
    Stand p l e R' ((T.setVm s.vm).setFrames (.invoking m args :: below)) m args below meth c T [] 0 0 := by
  have htop : (T.setVm s.vm).topJava?.isSome := X.here.top
  have hF : ((T.setVm s.vm).setFrames (.invoking m args :: below)).frames = .invoking m args :: below := State.frames_setFrames _ (State.cur_lt_of_top htop)
  obtain ⟨g₀, hg0⟩ := Option.isSome_iff_exists.mp htop
  obtain ⟨r, hr⟩ := State.topJava?_eq_some.mp hg0
  have hl9 : e.platform.stackLimits (T.setVm s.vm).me = e.platform.stackLimits s.me := X.limits
  have hb9 : (T.setVm s.vm).me.stackBytes = s.me.stackBytes := X.bytes
  refine ⟨X.admits, X.cas, X.clock, hF, ?_, X.hears, X.method, X.code, X.here, X.tail, X.warmed, ?_, ?_, ?_⟩
  · have h := X.room
    have hU : ((T.setVm s.vm).setFrames (.invoking m args :: below)).localsInUse = s.localsInUse := by
      rw [State.localsInUse_invoking hF (meth := meth) (c := c) X.method X.code, State.localsInUse_invoking X.frames X.method X.code]
    simp only [State.hasRoom, Bool.and_eq_true, decide_eq_true_eq] at h ⊢
    obtain ⟨⟨⟨⟨h1, h2, h3, h4, h5, h6⟩, h7⟩, h8⟩, h9⟩ := h
    rw [X.frames, List.length_cons] at h2 h3
    have q1 := X.heapSize
    have q2 := X.used
    simp only [hF, hU, List.length_cons, State.stackLimits_setFrames, State.stackBytes_setFrames, hl9, hb9]
    refine ⟨⟨⟨⟨by omega, by omega, by omega, by omega, by omega, h6⟩, ?_⟩, ?_⟩, X.book⟩
    · show T.heap.size + R'.cells ≤ e.platform.maxCells
      omega
    · show T.slotsUsed + R'.slots ≤ e.platform.maxSlots
      omega
  · rw [State.stackLimits_setFrames]; rfl
  · rw [State.stackBytes_setFrames]; rfl
  · refine ⟨?_, Nat.le_refl _, Nat.le_refl _, ?_, ?_, fun a c9 h9 => ⟨c9, h9, rfl, rfl, fun _ _ => rfl⟩⟩
    · obtain ⟨t, ht, -⟩ := State.frames_cons hr
      show T.setVm s.vm = { ((T.setVm s.vm).setFrames (.invoking m args :: below)).setFrames (T.setVm s.vm).frames with heap := T.heap, slotsUsed := T.slotsUsed }
      rw [State.setFrames_setFrames, State.setFrames_self ht]
      rfl
    · show T.slotsUsed = T.slotsUsed + ((T.heap.toList.drop T.heap.size).map (·.slots.size)).sum
      rw [List.drop_eq_nil_of_le (Nat.le_of_eq Array.length_toList)]
      rfl
    · show ((T.heap.toList.drop T.heap.size).map (·.slots.size)).sum ≤ 0
      rw [List.drop_eq_nil_of_le (Nat.le_of_eq Array.length_toList)]
      exact Nat.le_refl _
/-- 'throw new E()': new; dup; invokespecial; athrow -/
theorem vx_throw0 {cc : ByteArray} {pc : Nat} (hexec : p.tables.exec = Jvm.exec) (hb : c.code = cc) (hl : l.stackTraces = false) {own cls : String} {names : List String} {ik ic mc ms : Nat} {A : Nat → Prop}
    (hown : s.vm.findClass own = some m.cls) (hcls : Bundle.fit cls = true) (hnames : ∀ n ∈ names, Bundle.fit n = true)
    (hk : (Cond.classLink own ik cls).before args s = true) (hini : (Cond.initialized cls).before args s = true) (hat : ∀ w ∈ vx_at0 own ic cls names, w.before args s = true)
    (hgood : ∀ w ∈ Cond.classLink own ik cls :: Cond.initialized cls :: vx_at0 own ic cls names, vx_ot w = true)
    (hU : vx_Zq Bundle.tN "UNASSIGNED_STACK" Bundle.steD A s s.heap) (hN : vx_Zq Bundle.tN "SUPPRESSED_SENTINEL" Bundle.listD A s s.heap) (hS : va_S A s.heap H locs) (hsize : ls.size = c.maxLocals)
    (d0 : decode cc pc = .ok (.new ik, 3)) (d3 : decode cc (pc + 3) = .ok (.dup, 1)) (d4 : decode cc (pc + 4) = .ok (.invokespecial ic, 3)) (d7 : decode cc (pc + 7) = .ok (.athrow, 1))
    (hout : ∀ x ∈ c.exceptionTable.toList, covers x (pc + 7) = false)
    (hRframes : names.length + 3 < R.frames) (hRlocals : (rest.map fun v => v.category).sum + (13 * (names.length + 1) + 42) ≤ R.locals) (hRcells : cells + 1 ≤ R.cells) (hRslots : slots + 6 ≤ R.slots) (hlocks : meth.locks = false)
    (hx : ∀ t : State, s.vm.Alike t.vm → H.size ≤ t.heap.size → (∀ q : Nat, q < H.size → t.heap[q]? = H[q]?) → XC cls s t)
    (hf : ∀ z ∈ locs, free z.base) (hc : cells + 1 ≤ mc) (hs : slots + 6 ≤ ms) :
    W p l e R s m args below meth c H locs cells slots (vx_MQ below Qc XC args s mc ms free) (F0 m pc ls rest) := by
  intro T hT X
  have htr : e.platform.stackTraces = false := (show e.platform.stackTraces = l.stackTraces by rw [X.admits.platform]).trans hl
  have Y := vx_rebase X (R' := { frames := R.frames, locals := R.locals, cells := 1, slots := 6 }) (Nat.le_refl _) (Nat.le_refl _) hRcells hRslots
  obtain ⟨s', hA⟩ : ∃ z, z = (T.setVm s.vm).setFrames (.invoking m args :: below) := ⟨_, rfl⟩
  rw [← hA] at Y
  have hvm : s'.vm = s.vm := by rw [hA]; rfl
  have hhp : s'.heap = H := by rw [hA]; exact hT
  have hW0 : s.WarmedH s'.vm := by rw [hvm]; exact State.WarmedH.refl s
  have hat' : ∀ w ∈ vx_at0 own ic cls names, w.before args s' = true := fun w hw => vx_ot_at hW0 hvm.symm (hgood w (List.mem_cons_of_mem _ (List.mem_cons_of_mem _ hw))) (hat w hw)
  have hk' : (Cond.classLink own ik cls).before args s' = true := vx_ot_at hW0 hvm.symm (hgood _ List.mem_cons_self) hk
  have hini' : (Cond.initialized cls).before args s' = true := vx_ot_at hW0 hvm.symm (hgood _ (List.mem_cons_of_mem _ List.mem_cons_self)) hini
  have hU' : vx_Zq Bundle.tN "UNASSIGNED_STACK" Bundle.steD A s' s'.heap := by rw [hhp]; exact vx_Zq.moved hW0.alike (hU.kept hS.2.1)
  have hN' : vx_Zq Bundle.tN "SUPPRESSED_SENTINEL" Bundle.listD A s' s'.heap := by rw [hhp]; exact vx_Zq.moved hW0.alike (hN.kept hS.2.1)
  have h : ∀ w ∈ Bundle.ownAtoms0 own ic cls names, w.before args s' = true := vx_own hat' (vx_isRefq hU'.1) (vx_isRefq hN'.1) hU'.2.word hN'.2.word
  have hown' : s'.vm.findClass own = some m.cls := by rw [hvm]; exact hown
  have hins : (Cond.instantiable cls 6).before args s' = true := h _ (by simp [Bundle.ownAtoms0])
  obtain ⟨vm₁, cX, kX, hfX, hkX, -, -, X₁, st1⟩ := Y.newCold hexec (own := own) (C := cls) (index := ik) (n := 6) hown' hk' hins hini'
    (g := F0 m pc ls rest) rfl (by rw [hb]; exact d0) (Nat.le_refl _) (Nat.le_refl _)
  generalize hT1 : (T.setVm vm₁).pushCell { cls := cX, slots := kX.instanceTypes.map defaultValue, vm := .none } = T1 at X₁ st1
  have hcat : (Value.ref T.heap.size).category = 1 := rfl
  have hcellA : T1.heap[T.heap.size]? = some (freshCell cX kX) := by rw [← hT1]; exact State.heap_pushCell_size _ _
  have d3' : decode c.code (pc + 3) = .ok (.dup, 1) := by rw [hb]; exact d3
  obtain ⟨U, hsteps, hrun, hend, hW, hsame, ce, hce, hO⟩ := X₁.ctorThrow0 hexec htr (own := own) (cls := cls) (names := names) (ic := ic) hown' hcls hnames h (fun x hx => nomatch hx) hfX hkX hcellA (by rw [hhp, hT]; exact Nat.le_refl _)
    (g := { method := m, pc := pc + 4, locals := ls, stack := .ref T.heap.size :: .ref T.heap.size :: rest, locked := none }) rfl hsize rfl rfl (rest := rest) rfl
    (by rw [hb]; exact d4) (by rw [hb]; exact d7) hout hRframes (by simp only [List.map_cons, List.sum_cons, hcat]; omega) hlocks
  obtain ⟨f1, f2⟩ := vx_frame hsame
  rw [hhp] at f1 f2
  have hWs : s.WarmedH U.vm := State.WarmedH.trans hW0 hW
  have hcl : s.vm.findClass cls = some ce.cls := by
    have h9 := hO.cls
    rw [hvm] at h9
    exact h9
  have hall : s.sameButNew ({ U with vm := s.vm } : State) locs mc ms := by
    subst hA
    obtain ⟨e1, e2⟩ := hsame
    rw [State.setFrames_setFrames] at e1
    have h2 : (T.setVm s.vm).sameButNew ({ U with vm := s.vm } : State) [] (0 + 1) (0 + 6) := ⟨e1, e2⟩
    have h3 := X.same.trans h2
    rw [List.append_nil] at h3
    exact h3.mono hc hs
  refine ⟨U, ?_, .threw T.heap.size, hrun, hend, Or.inr ⟨T.heap.size, rfl, cls, ce, locs, hx U hWs.alike f1 (fun q hq => f2 q hq (fun z hz => nomatch hz)), hce, hO.vm, hcl, hWs, hall, hf⟩⟩
  refine st1 _ ?_
  show Steps p.tables e below (T1.setTop { method := m, pc := pc + 3, locals := ls, stack := .ref T.heap.size :: rest, locked := none }) _
  jvm_step X₁.here [X₁.here.top, hexec, d3', Value.category]
  exact hsteps
/-- 'throw new E("text")': new; dup; ldc; invokespecial; athrow -/
theorem vx_throwS {cc : ByteArray} {pc : Nat} (hexec : p.tables.exec = Jvm.exec) (hb : c.code = cc) (hl : l.stackTraces = false) {own cls text : String} {names : List String} {ik is ic mc ms sa : Nat} {A : Nat → Prop}
    (hown : s.vm.findClass own = some m.cls) (hcls : Bundle.fit cls = true) (hnames : ∀ n ∈ names, Bundle.fit n = true)
    (hk : (Cond.classLink own ik cls).before args s = true) (hini : (Cond.initialized cls).before args s = true) (hstr : vk_R own is text sa s) (hat : ∀ w ∈ vx_atS own ic cls names, w.before args s = true)
    (hgood : ∀ w ∈ Cond.classLink own ik cls :: Cond.initialized cls :: vx_atS own ic cls names, vx_ot w = true)
    (hU : vx_Zq Bundle.tN "UNASSIGNED_STACK" Bundle.steD A s s.heap) (hN : vx_Zq Bundle.tN "SUPPRESSED_SENTINEL" Bundle.listD A s s.heap) (hS : va_S A s.heap H locs) (hsize : ls.size = c.maxLocals)
    (d0 : decode cc pc = .ok (.new ik, 3)) (d3 : decode cc (pc + 3) = .ok (.dup, 1)) (d4 : decode cc (pc + 4) = .ok (.ldc is, 2)) (d6 : decode cc (pc + 6) = .ok (.invokespecial ic, 3)) (d9 : decode cc (pc + 9) = .ok (.athrow, 1))
    (hout : ∀ x ∈ c.exceptionTable.toList, covers x (pc + 9) = false)
    (hRframes : names.length + 3 < R.frames) (hRlocals : (rest.map fun v => v.category).sum + (13 * (names.length + 1) + 43) ≤ R.locals) (hRcells : cells + 1 ≤ R.cells) (hRslots : slots + 6 ≤ R.slots) (hlocks : meth.locks = false)
    (hx : ∀ t : State, s.vm.Alike t.vm → H.size ≤ t.heap.size → (∀ q : Nat, q < H.size → t.heap[q]? = H[q]?) → XC cls s t)
    (hf : ∀ z ∈ locs, free z.base) (hc : cells + 1 ≤ mc) (hs : slots + 6 ≤ ms) :
    W p l e R s m args below meth c H locs cells slots (vx_MQ below Qc XC args s mc ms free) (F0 m pc ls rest) := by
  intro T hT X
  have htr : e.platform.stackTraces = false := (show e.platform.stackTraces = l.stackTraces by rw [X.admits.platform]).trans hl
  have Y := vx_rebase X (R' := { frames := R.frames, locals := R.locals, cells := 1, slots := 6 }) (Nat.le_refl _) (Nat.le_refl _) hRcells hRslots
  obtain ⟨s', hA⟩ : ∃ z, z = (T.setVm s.vm).setFrames (.invoking m args :: below) := ⟨_, rfl⟩
  rw [← hA] at Y
  have hvm : s'.vm = s.vm := by rw [hA]; rfl
  have hhp : s'.heap = H := by rw [hA]; exact hT
  have hW0 : s.WarmedH s'.vm := by rw [hvm]; exact State.WarmedH.refl s
  have hat' : ∀ w ∈ vx_atS own ic cls names, w.before args s' = true := fun w hw => vx_ot_at hW0 hvm.symm (hgood w (List.mem_cons_of_mem _ (List.mem_cons_of_mem _ hw))) (hat w hw)
  have hk' : (Cond.classLink own ik cls).before args s' = true := vx_ot_at hW0 hvm.symm (hgood _ List.mem_cons_self) hk
  have hini' : (Cond.initialized cls).before args s' = true := vx_ot_at hW0 hvm.symm (hgood _ (List.mem_cons_of_mem _ List.mem_cons_self)) hini
  have hU' : vx_Zq Bundle.tN "UNASSIGNED_STACK" Bundle.steD A s' s'.heap := by rw [hhp]; exact vx_Zq.moved hW0.alike (hU.kept hS.2.1)
  have hN' : vx_Zq Bundle.tN "SUPPRESSED_SENTINEL" Bundle.listD A s' s'.heap := by rw [hhp]; exact vx_Zq.moved hW0.alike (hN.kept hS.2.1)
  have h : ∀ w ∈ Bundle.ownAtoms own ic cls names, w.before args s' = true := vx_own hat' (vx_isRefq hU'.1) (vx_isRefq hN'.1) hU'.2.word hN'.2.word
  have hown' : s'.vm.findClass own = some m.cls := by rw [hvm]; exact hown
  have hins : (Cond.instantiable cls 6).before args s' = true := h _ (by simp [Bundle.ownAtoms])
  obtain ⟨vm₁, cX, kX, hfX, hkX, -, -, X₁, st1⟩ := Y.newCold hexec (own := own) (C := cls) (index := ik) (n := 6) hown' hk' hins hini'
    (g := F0 m pc ls rest) rfl (by rw [hb]; exact d0) (Nat.le_refl _) (Nat.le_refl _)
  generalize hT1 : (T.setVm vm₁).pushCell { cls := cX, slots := kX.instanceTypes.map defaultValue, vm := .none } = T1 at X₁ st1
  have hcat : (Value.ref T.heap.size).category = 1 := rfl
  have hcellA : T1.heap[T.heap.size]? = some (freshCell cX kX) := by rw [← hT1]; exact State.heap_pushCell_size _ _
  have d3' : decode c.code (pc + 3) = .ok (.dup, 1) := by rw [hb]; exact d3
  have d4' : decode c.code (pc + 4) = .ok (.ldc is, 2) := by rw [hb]; exact d4
  have hstr' : vk_R own is text sa s' := vk_R.warm hW0 hstr
  obtain ⟨U, hsteps, hrun, hend, hW, hsame, ce, hce, hO⟩ := X₁.ctorThrowS hexec htr (own := own) (cls := cls) (names := names) (ic := ic) hown' hcls hnames h (fun x hx => nomatch hx) hfX hkX hcellA (by rw [hhp, hT]; exact Nat.le_refl _) (msg := .ref sa) rfl
    (g := { method := m, pc := pc + 6, locals := ls, stack := .ref sa :: .ref T.heap.size :: .ref T.heap.size :: rest, locked := none }) rfl hsize rfl rfl (rest := rest) rfl
    (by rw [hb]; exact d6) (by rw [hb]; exact d9) hout hRframes (by simp only [List.map_cons, List.sum_cons, hcat]; omega) hlocks
  obtain ⟨f1, f2⟩ := vx_frame hsame
  rw [hhp] at f1 f2
  have hWs : s.WarmedH U.vm := State.WarmedH.trans hW0 hW
  have hcl : s.vm.findClass cls = some ce.cls := by
    have h9 := hO.cls
    rw [hvm] at h9
    exact h9
  have hall : s.sameButNew ({ U with vm := s.vm } : State) locs mc ms := by
    subst hA
    obtain ⟨e1, e2⟩ := hsame
    rw [State.setFrames_setFrames] at e1
    have h2 : (T.setVm s.vm).sameButNew ({ U with vm := s.vm } : State) [] (0 + 1) (0 + 6) := ⟨e1, e2⟩
    have h3 := X.same.trans h2
    rw [List.append_nil] at h3
    exact h3.mono hc hs
  refine ⟨U, ?_, .threw T.heap.size, hrun, hend, Or.inr ⟨T.heap.size, rfl, cls, ce, locs, hx U hWs.alike f1 (fun q hq => f2 q hq (fun z hz => nomatch hz)), hce, hO.vm, hcl, hWs, hall, hf⟩⟩
  refine st1 _ ?_
  show Steps p.tables e below (T1.setTop { method := m, pc := pc + 3, locals := ls, stack := .ref T.heap.size :: rest, locked := none }) _
  jvm_step X₁.here [X₁.here.top, hexec, d3', Value.category]
  exact X₁.ldcString hexec (own := own) (text := text) (index := is) (a := sa) hown' hstr'.1 hstr'.2
    (g := { method := m, pc := pc + 4, locals := ls, stack := .ref T.heap.size :: .ref T.heap.size :: rest, locked := none }) rfl d4' _ hsteps
/-- 'throw new E("text")', the text by a wide index -/
theorem vx_throwSW {cc : ByteArray} {pc : Nat} (hexec : p.tables.exec = Jvm.exec) (hb : c.code = cc) (hl : l.stackTraces = false) {own cls text : String} {names : List String} {ik is ic mc ms sa : Nat} {A : Nat → Prop}
    (hown : s.vm.findClass own = some m.cls) (hcls : Bundle.fit cls = true) (hnames : ∀ n ∈ names, Bundle.fit n = true)
    (hk : (Cond.classLink own ik cls).before args s = true) (hini : (Cond.initialized cls).before args s = true) (hstr : vk_R own is text sa s) (hat : ∀ w ∈ vx_atS own ic cls names, w.before args s = true)
    (hgood : ∀ w ∈ Cond.classLink own ik cls :: Cond.initialized cls :: vx_atS own ic cls names, vx_ot w = true)
    (hU : vx_Zq Bundle.tN "UNASSIGNED_STACK" Bundle.steD A s s.heap) (hN : vx_Zq Bundle.tN "SUPPRESSED_SENTINEL" Bundle.listD A s s.heap) (hS : va_S A s.heap H locs) (hsize : ls.size = c.maxLocals)
    (d0 : decode cc pc = .ok (.new ik, 3)) (d3 : decode cc (pc + 3) = .ok (.dup, 1)) (d4 : decode cc (pc + 4) = .ok (.ldc_w is, 3)) (d7 : decode cc (pc + 7) = .ok (.invokespecial ic, 3)) (d10 : decode cc (pc + 10) = .ok (.athrow, 1))
    (hout : ∀ x ∈ c.exceptionTable.toList, covers x (pc + 10) = false)
    (hRframes : names.length + 3 < R.frames) (hRlocals : (rest.map fun v => v.category).sum + (13 * (names.length + 1) + 43) ≤ R.locals) (hRcells : cells + 1 ≤ R.cells) (hRslots : slots + 6 ≤ R.slots) (hlocks : meth.locks = false)
    (hx : ∀ t : State, s.vm.Alike t.vm → H.size ≤ t.heap.size → (∀ q : Nat, q < H.size → t.heap[q]? = H[q]?) → XC cls s t)
    (hf : ∀ z ∈ locs, free z.base) (hc : cells + 1 ≤ mc) (hs : slots + 6 ≤ ms) :
    W p l e R s m args below meth c H locs cells slots (vx_MQ below Qc XC args s mc ms free) (F0 m pc ls rest) := by
  intro T hT X
  have htr : e.platform.stackTraces = false := (show e.platform.stackTraces = l.stackTraces by rw [X.admits.platform]).trans hl
  have Y := vx_rebase X (R' := { frames := R.frames, locals := R.locals, cells := 1, slots := 6 }) (Nat.le_refl _) (Nat.le_refl _) hRcells hRslots
  obtain ⟨s', hA⟩ : ∃ z, z = (T.setVm s.vm).setFrames (.invoking m args :: below) := ⟨_, rfl⟩
  rw [← hA] at Y
  have hvm : s'.vm = s.vm := by rw [hA]; rfl
  have hhp : s'.heap = H := by rw [hA]; exact hT
  have hW0 : s.WarmedH s'.vm := by rw [hvm]; exact State.WarmedH.refl s
  have hat' : ∀ w ∈ vx_atS own ic cls names, w.before args s' = true := fun w hw => vx_ot_at hW0 hvm.symm (hgood w (List.mem_cons_of_mem _ (List.mem_cons_of_mem _ hw))) (hat w hw)
  have hk' : (Cond.classLink own ik cls).before args s' = true := vx_ot_at hW0 hvm.symm (hgood _ List.mem_cons_self) hk
  have hini' : (Cond.initialized cls).before args s' = true := vx_ot_at hW0 hvm.symm (hgood _ (List.mem_cons_of_mem _ List.mem_cons_self)) hini
  have hU' : vx_Zq Bundle.tN "UNASSIGNED_STACK" Bundle.steD A s' s'.heap := by rw [hhp]; exact vx_Zq.moved hW0.alike (hU.kept hS.2.1)
  have hN' : vx_Zq Bundle.tN "SUPPRESSED_SENTINEL" Bundle.listD A s' s'.heap := by rw [hhp]; exact vx_Zq.moved hW0.alike (hN.kept hS.2.1)
  have h : ∀ w ∈ Bundle.ownAtoms own ic cls names, w.before args s' = true := vx_own hat' (vx_isRefq hU'.1) (vx_isRefq hN'.1) hU'.2.word hN'.2.word
  have hown' : s'.vm.findClass own = some m.cls := by rw [hvm]; exact hown
  have hins : (Cond.instantiable cls 6).before args s' = true := h _ (by simp [Bundle.ownAtoms])
  obtain ⟨vm₁, cX, kX, hfX, hkX, -, -, X₁, st1⟩ := Y.newCold hexec (own := own) (C := cls) (index := ik) (n := 6) hown' hk' hins hini'
    (g := F0 m pc ls rest) rfl (by rw [hb]; exact d0) (Nat.le_refl _) (Nat.le_refl _)
  generalize hT1 : (T.setVm vm₁).pushCell { cls := cX, slots := kX.instanceTypes.map defaultValue, vm := .none } = T1 at X₁ st1
  have hcat : (Value.ref T.heap.size).category = 1 := rfl
  have hcellA : T1.heap[T.heap.size]? = some (freshCell cX kX) := by rw [← hT1]; exact State.heap_pushCell_size _ _
  have d3' : decode c.code (pc + 3) = .ok (.dup, 1) := by rw [hb]; exact d3
  have d4' : decode c.code (pc + 4) = .ok (.ldc_w is, 3) := by rw [hb]; exact d4
  have hstr' : vk_R own is text sa s' := vk_R.warm hW0 hstr
  obtain ⟨U, hsteps, hrun, hend, hW, hsame, ce, hce, hO⟩ := X₁.ctorThrowS hexec htr (own := own) (cls := cls) (names := names) (ic := ic) hown' hcls hnames h (fun x hx => nomatch hx) hfX hkX hcellA (by rw [hhp, hT]; exact Nat.le_refl _) (msg := .ref sa) rfl
    (g := { method := m, pc := pc + 7, locals := ls, stack := .ref sa :: .ref T.heap.size :: .ref T.heap.size :: rest, locked := none }) rfl hsize rfl rfl (rest := rest) rfl
    (by rw [hb]; exact d7) (by rw [hb]; exact d10) hout hRframes (by simp only [List.map_cons, List.sum_cons, hcat]; omega) hlocks
  obtain ⟨f1, f2⟩ := vx_frame hsame
  rw [hhp] at f1 f2
  have hWs : s.WarmedH U.vm := State.WarmedH.trans hW0 hW
  have hcl : s.vm.findClass cls = some ce.cls := by
    have h9 := hO.cls
    rw [hvm] at h9
    exact h9
  have hall : s.sameButNew ({ U with vm := s.vm } : State) locs mc ms := by
    subst hA
    obtain ⟨e1, e2⟩ := hsame
    rw [State.setFrames_setFrames] at e1
    have h2 : (T.setVm s.vm).sameButNew ({ U with vm := s.vm } : State) [] (0 + 1) (0 + 6) := ⟨e1, e2⟩
    have h3 := X.same.trans h2
    rw [List.append_nil] at h3
    exact h3.mono hc hs
  refine ⟨U, ?_, .threw T.heap.size, hrun, hend, Or.inr ⟨T.heap.size, rfl, cls, ce, locs, hx U hWs.alike f1 (fun q hq => f2 q hq (fun z hz => nomatch hz)), hce, hO.vm, hcl, hWs, hall, hf⟩⟩
  refine st1 _ ?_
  show Steps p.tables e below (T1.setTop { method := m, pc := pc + 3, locals := ls, stack := .ref T.heap.size :: rest, locked := none }) _
  jvm_step X₁.here [X₁.here.top, hexec, d3', Value.category]
  exact X₁.ldcStringW hexec (own := own) (text := text) (index := is) (a := sa) hown' hstr'.1 hstr'.2
    (g := { method := m, pc := pc + 4, locals := ls, stack := .ref T.heap.size :: .ref T.heap.size :: rest, locked := none }) rfl d4' _ hsteps
end Ends
section Bodies
variable {l : Launch}
theorem vx_ofW {y : MethodName} {ws ws' : List Cond} {rm : Room} {Pc : Array Value → State → Prop} {Qc : Array Value → State → Outcome → State → Prop} {XC : String → State → State → Prop} {mc ms : Nat} {free : Addr → Prop} {cc : ByteArray} {maxL : Nat} {ret : Option FieldType}
    (hy : plainName y.cls = true) (hw : ws = Cond.code y cc maxL ret :: ws')
    (body : ∀ p e s m args below meth c s₁, BodyLoose p l y (headSpec ws rm) cc maxL ret e s m args below meth c s₁ → c.maxLocals = maxL → (∀ x ∈ c.exceptionTable.toList, False) → Pc args s →
      W p l e (headSpec ws rm).room s m args below meth c s.heap [] 0 0 (vx_MQ below Qc XC args s mc ms free) (entryFrame m args maxL)) : vx_Met l y ws rm Pc Qc XC mc ms free := by
  refine MetFree.of_bodyS (code := cc) (maxLocals := maxL) (ret := ret) hy ?_ ?_
  · intro args s m h hn
    obtain ⟨meth, c, h1, h2, h3, h4, h5, h6, -, -⟩ := Cond.code_spec hn (atoms_spec (ws := ws) h _ (by rw [hw]; exact List.mem_cons_self))
    exact ⟨meth, c, h1, h2, h3, h4, h5, h6⟩
  · intro p e s m args below meth c s₁ B hml hP _
    have hh0 : s₁.heap = s.heap := by rw [B.state]; rfl
    have ht : ∀ x ∈ c.exceptionTable.toList, False := by
      obtain ⟨meth9, c9, h1, h2, -, -, -, -, h7, -⟩ := Cond.code_spec B.named (atoms_spec (ws := ws) B.pre _ (by rw [hw]; exact List.mem_cons_self))
      cases Option.some.inj (h1.symm.trans B.method)
      cases Option.some.inj (h2.symm.trans (Stand.of_body B).code)
      intro x hx
      rw [Array.isEmpty_iff.mp h7] at hx
      cases hx
    obtain ⟨t, a1, o, b1, b2, b3⟩ := body p e s m args below meth c s₁ B hml ht hP s₁ hh0 (Stand.of_body B)
    exact ⟨t, o, a1, b1, b2, b3⟩
/-- the table of a body with handlers -/
theorem vx_table {p : Program} {x y : MethodName} {S : Spec} {cc bytes : ByteArray} {maxL maxL' : Nat} {ret ret' : Option FieldType} {e : Env} {s s₁ : State} {m : MethodId} {args : Array Value} {below : List Frame} {meth : Method} {c : Code} {hh : List (Nat × Nat × Nat × Nat)}
    (B : BodyLoose p l y S cc maxL ret e s m args below meth c s₁) (h : (Cond.codeWith y bytes maxL' ret' hh).before args s = true) : c.exceptionTable.toList = tableOf hh := by
  obtain ⟨m9, meth9, c9, hn9, h1, h2, -, -, h6, -⟩ := Cond.codeWith_spec h
  cases Option.some.inj (hn9.symm.trans B.named)
  cases Option.some.inj (h1.symm.trans B.method)
  cases Option.some.inj (h2.symm.trans (Stand.of_body B).code)
  rw [← h6, table_eq]
end Bodies
end VXA
/-! ===== END ===== -/
/-! ===== BEGIN a static call of a method with an exception table ===== -/
section VXS
variable {p : Program} {l : Launch} {e : Env} {R : Room} {s : State} {m : MethodId} {args : Array Value} {below : List Frame} {meth : Method} {c : Code} {T : State} {H : Heap} {locs : List Loc} {cells slots : Nat}
abbrev vx_CSW (R : Room) (s : State) (args : Array Value) (own : String) (index : Nat) (y : MethodName) (bytes : ByteArray) (maxL : Nat) (ret : Option FieldType) (hh : List (Nat × Nat × Nat × Nat)) (ws : List Cond) (rm : Room) (mc ms n : Nat) : Prop :=
  (rm.cells = mc ∧ rm.slots = ms ∧ rm.frames + 1 ≤ R.frames ∧ 8 + (maxL + 11) + rm.locals ≤ R.locals ∧ (∀ w ∈ ws, ∀ (a' : Array Value) (U : State), s.WarmedH U.vm → w.before a' U = true) ∧ Cond.codeWith y bytes maxL ret hh ∈ ws) ∧
  (Cond.codeWith y bytes maxL ret hh).before args s = true ∧ (Cond.initialized y.cls).before args s = true ∧ (y.cls ≠ "java/lang/invoke/MethodHandle" ∧ y.cls ≠ "java/lang/invoke/VarHandle") ∧
  (∀ sig, parseMethodDescriptor y.desc = some sig → n = sig.parameters.length) ∧ (Cond.methodLink own index y).before args s = true ∧ (Cond.static y).before args s = true
theorem vx_cwSW {own : String} {index maxL mc ms : Nat} {y : MethodName} {bytes : ByteArray} {ret : Option FieldType} {hh : List (Nat × Nat × Nat × Nat)} {Ts ws ws' : List Cond} {rm : Room} (n : Nat) (ht : ∀ w ∈ Ts, w.before args s = true) (hT : GoodIn Ts (va_wsS own index y ws)) (hw : ws = Cond.codeWith y bytes maxL ret hh :: ws') (hrc : rm.cells = mc) (hrs : rm.slots = ms)
    (hd : y.cls ≠ "java/lang/invoke/MethodHandle" ∧ y.cls ≠ "java/lang/invoke/VarHandle" ∧ (parseMethodDescriptor y.desc).map (fun d => d.parameters.length) = some n) (hR : rm.frames + 1 ≤ R.frames ∧ 8 + (maxL + 11) + rm.locals ≤ R.locals) :
    vx_CSW R s args own index y bytes maxL ret hh ws rm mc ms n := by
  have ok : ∀ w ∈ va_wsS own index y ws, w.before args s = true := fun w h => ht w (hT w h).1
  have hG : GoodIn Ts ws := fun w h => hT w (by unfold va_wsS; exact List.mem_append_right _ h)
  have hc : Cond.codeWith y bytes maxL ret hh ∈ ws := by rw [hw]; exact List.mem_cons_self
  refine ⟨⟨hrc, hrs, hR.1, hR.2, pay_in ht hG, hc⟩, ht _ (hG _ hc).1, ok _ (by simp [va_wsS]), ⟨hd.1, hd.2.1⟩, fun sig h => ?_, ok _ (by simp [va_wsS]), ok _ (by simp [va_wsS])⟩
  have h2 := hd.2.2
  rw [h] at h2
  exact (Option.some.inj h2).symm
theorem vx_callSW (X : Stand p l e R s m args below meth c T locs cells slots) (hexec : p.tables.exec = Jvm.exec) {own : String} {index : Nat} {y : MethodName} {bytes : ByteArray} {maxL : Nat} {ret : Option FieldType} {hh : List (Nat × Nat × Nat × Nat)}
    (hown : s.vm.findClass own = some m.cls) (hlink : (Cond.methodLink own index y).before args s = true) (hstat : (Cond.static y).before args s = true) (hinit : (Cond.initialized y.cls).before args s = true)
    (hcode : (Cond.codeWith y bytes maxL ret hh).before args s = true) (hy : y.cls ≠ "java/lang/invoke/MethodHandle" ∧ y.cls ≠ "java/lang/invoke/VarHandle")
    {W9 : Nat} {Pre : Pt → Array Value → Prop} {Post : Pt → Array Value → Option Value → Pt → Prop} (hK : Back l R p e below s args y 3 W9 Pre Post)
    {g : JFrame} (hg : g.method = m) (hsize : g.locals.size = c.maxLocals) {argsL rest : List Value} (hlen : ∀ sig, parseMethodDescriptor y.desc = some sig → argsL.length = sig.parameters.length)
    (hstack : g.stack = argsL.reverse ++ rest) (hW : 2 * g.monitorRoom + (rest.map fun v => v.category).sum ≤ W9) (hdg : decode c.code g.pc = .ok (.invokestatic index, 3))
    (hpre : ∀ vm₁, s.WarmedH vm₁ → Pre ⟨T.setVm vm₁, locs, cells, slots⟩ argsL.toArray) :
    ∃ (v : Option Value) (vm₁ : Vm) (B : Pt), s.WarmedH vm₁ ∧ Stand p l e R s m args below meth c B.U B.locs B.cells B.slots ∧ Post ⟨T.setVm vm₁, locs, cells, slots⟩ argsL.toArray v B ∧
      ∀ target, Steps p.tables e below (B.U.setTop { g with pc := g.pc + 3, stack := v.toList ++ rest }) target → Steps p.tables e below (T.setTop g) target := by
  obtain ⟨mk, methM, cM, hnamed, hmethM, -, -, -, -, -, -, hsigM⟩ := Cond.codeWith_spec hcode
  have hstatic : methM.isStatic = true := Cond.static_spec hnamed hmethM hstat
  obtain ⟨kP, hkP, -⟩ := className_of_methodNamed hnamed
  have hinitP : kP.init = .initialized := Cond.initialized_spec (findClass_of_methodNamed hnamed) hkP hinit
  obtain ⟨vm₁, X₁, hstep₁⟩ := X.invokestatic hexec hown hlink hnamed hmethM hstatic hkP hinitP hy (g := g) hg (argsL := argsL) (rest := rest) (hlen _ hsigM) hstack hdg
  obtain ⟨v, B, X', hpost, hsteps⟩ := hK m meth c ⟨T.setVm vm₁, locs, cells, slots⟩ { g with stack := rest } (.invokestatic index) mk argsL.toArray X₁ hg hsize hdg hW (X₁.named hnamed) (hpre vm₁ X₁.warmed)
  exact ⟨v, vm₁, B, X₁.warmed, X', hpost, fun target h => hstep₁ _ fun acts => by rw [doInvoke_state]; exact hsteps.trans h⟩
theorem vx_runSW {y : MethodName} {bytes cc : ByteArray} {maxL nL mc ms n index : Nat} {ret : Option FieldType} {hh : List (Nat × Nat × Nat × Nat)} {ws : List Cond} {rm : Room} {Pc : Array Value → State → Prop} {Qc : Array Value → State → Outcome → State → Prop} {free : Addr → Prop} {Ts : List Cond} {own : String} {As rest : List Value} {g : JFrame}
    (S : CallFix p m c cc nL s args Ts own) (hM : Met l y ws rm Pc Qc mc ms free) (cw : vx_CSW R s args own index y bytes maxL ret hh ws rm mc ms n) (hp : PreS s H Pc As)
    (hg : g.method = m) (hn : As.length = n) (hsize : g.locals.size = nL) (hstack : g.stack = As.reverse ++ rest) (hW : 2 * g.monitorRoom + (rest.map fun v => v.category).sum ≤ 8) (hdg : decode cc g.pc = .ok (.invokestatic index, 3)) (hf : cells + mc ≤ R.cells ∧ slots + ms ≤ R.slots) :
    va_Run p l e R s m args below meth c H locs cells slots mc ms g rest (Qc As.toArray) (free) := by
  obtain ⟨⟨hrc, hrs, hfr, hlo, hws, hcw⟩, hcode, hini, hy, hlen, hl, hstt⟩ := cw
  have hK : Back l R p e below s args y 3 8 (PreOf R mc ms Pc) (PostOf Qc mc ms free) := va_backW (hh := hh) (bytes := bytes) (maxL := maxL) (ret := ret) hM hp.1 hrc hrs hfr hlo hws hcw (fun a' U hW => word_at hW (Or.inl (by first | rfl | simp [Cond.onTables, Cond.keeps, Cond.steady])) hini)
  obtain ⟨hx, hb, hml, ho, -⟩ := S
  intro T hT X
  obtain ⟨v, vm₁, ⟨U', l2, c2, s2⟩, hW₁, X', ⟨g', mk, t, L, e1, e2, hq, h1, hL, h2, h3⟩, st⟩ := vx_callSW X hx (hh := hh) (bytes := bytes) (maxL := maxL) (ret := ret) ho hl hstt hini hcode hy hK hg (hsize.trans hml.symm) (argsL := As) (rest := rest) (fun sig h => hn.trans (hlen sig h)) hstack hW (by rw [hb]; exact hdg)
    (fun vm₁ hW₁ => ⟨hf.1, hf.2, hp.2 (T.setVm vm₁) hT hW₁⟩)
  dsimp only [Pt.U, Pt.locs, Pt.cells, Pt.slots] at X' e1 e2 h1 h2 h3 st
  subst h1; subst h2; subst h3
  exact ⟨v, (T.setVm vm₁).calling g' mk As.toArray, t, U', L, hT, X', hL, e1, e2, hq, st⟩
/-- not caught here, past rows that name other classes: it goes on to the caller -/
theorem vx_outP {p : Program} {l : Launch} {e : Env} {R : Room} {s : State} {m : MethodId} {args : Array Value} {below : List Frame} {meth : Method} {c : Code} {H : Heap} {locs : List Loc} {cells slots : Nat} {free : Addr → Prop} {ls : Array Slot} {rest : List Value} {Qc : Array Value → State → Outcome → State → Prop} {XC : String → State → State → Prop}
    {pc : Nat} {own E : String} {ce : Cell} {q : Addr} {mc ms : Nat} (hown : s.vm.findClass own = some m.cls) (hlocks : meth.locks = false)
    (hpass : ∀ z ∈ c.exceptionTable.toList, covers z pc = false ∨ (z.catchType ≠ 0 ∧ ∃ nm : String, (Cond.classLink own z.catchType nm).before args s = true ∧ va_Nc E nm s)) (hcell : H[q]? = some ce) (hv : ce.vm = .none) (hcl : s.vm.findClass E = some ce.cls)
    (hx : ∀ t : State, t.heap = H → s.vm.Alike t.vm → XC E s t) (hf : ∀ z ∈ locs, free z.base) (hc : cells ≤ mc) (hs : slots ≤ ms) :
    vx_W p l e R s m args below meth c H locs cells slots (vx_MQ below Qc XC args s mc ms free) (F0 m pc ls rest) q := by
  intro T hT X
  have hpl : e.platform.magicAccessors = ({} : Platform).magicAccessors := by rw [X.admits.platform]
  obtain ⟨vm', hW', X', st⟩ := X.outThrough hlocks q (g := F0 m pc ls rest) rfl rfl rfl (cell := ce) (by rw [hT]; exact hcell) (by rw [hv]; rfl)
    (by obtain ⟨k9, h9, -⟩ := Vm.findClass_spec hcl; exact ⟨k9, h9⟩) (fun z hz => by
      rcases hpass z hz with h | ⟨hz0, nm, hl1, hn1⟩
      · exact Or.inl h
      · obtain ⟨c6, hc6, hcl6⟩ := Cond.classLink_spec hown hl1 e.platform hpl
        obtain ⟨a8, b8, h1, h2, h3⟩ := hn1
        cases Option.some.inj (h1.symm.trans hcl)
        cases Option.some.inj (h2.symm.trans hc6)
        exact Or.inr ⟨hz0, _, hcl6, h3⟩)
  obtain ⟨g₀, hfr⟩ := X'.frames_eq
  have hcell9 : ((T.setVm vm').setFrames (.throwing q :: below)).heap[q]? = some ce := by
    show T.heap[q]? = some ce
    rw [hT]; exact hcell
  have hend : Ended ((T.setVm vm').setFrames (.throwing q :: below)) below (.threw q) := State.frames_setFrames _ (State.cur_lt_of_frames hfr)
  refine ⟨(T.setVm vm').setFrames (.throwing q :: below), ?_, .threw q, X'.here.running, hend, Or.inr ⟨q, rfl, E, ce, locs, hx _ hT (X'.ends _).1.alike, hcell9, hv, hcl, (X'.ends _).1, (X'.ends _).2.mono hc hs, hf⟩⟩
  rw [X.pushThrowing_eq]
  exact st
/-- a thing of a world lies in the heap -/
theorem vx_lt {D : va_G} {cl : List vw_C} {ws : va_W} {H1 : Heap} (h : va_P D cl ws H1) {k : Nat} {q : Nat × va_E} (hk : ws[k]? = some q) : q.1 < H1.size := (h k q hk).lt
end VXS
/-! ===== END ===== -/
/-! ===== BEGIN methods with a table of their own: called by a name, returning or throwing ===== -/
section VXH
/-! vx_backW, vx_callVX, vx_callSX, vx_callVW, vx_runVW, vx_runVX, vx_runSX, vx_ofWH follow the same proofs as their sisters above (Free/Laws.lean, Shelf42/LK1.lean); vx_outP calls Shelf42/NT130.lean (outThrough). -/
section
variable {l : Launch} {R : Room} {p : Program} {e : Env} {below : List Frame} {s : State} {sargs : Array Value} {y : MethodName} {len W9 : Nat}
theorem vx_backW {ws : List Cond} {rm : Room} {Pc : Array Value → State → Prop} {Qc : Array Value → State → Outcome → State → Prop} {XC : String → State → State → Prop} {mc ms : Nat} {free : Addr → Prop} {bytes : ByteArray} {maxL : Nat} {ret : Option FieldType} {hh : List (Nat × Nat × Nat × Nat)}
    (hM : vx_Met l y ws rm Pc Qc XC mc ms free) (hblind : FrameBlind Pc) (hrc : rm.cells = mc) (hrs : rm.slots = ms)
    (hframes : rm.frames + 1 ≤ R.frames) (hlocals : W9 + (maxL + 11) + rm.locals ≤ R.locals)
    (hws : ∀ w ∈ ws, ∀ a' U, s.WarmedH U.vm → w.before a' U = true) (hcode : Cond.codeWith y bytes maxL ret hh ∈ ws) (hinit : ∀ a' U, s.WarmedH U.vm → (Cond.initialized y.cls).before a' U = true) :
    vx_Back l R p e below s sargs y len W9 (PreOf R mc ms Pc) (PostOf Qc mc ms free) (vx_Post XC mc ms free) := by
  intro m meth c A g ig mk a X hg hsize hdg hW hn hp
  have h1 : (headSpec ws rm).pre.before a A.U = true := atoms_intro fun w hw => hws w hw _ _ X.warmed
  have h2 : (Cond.codeWith y bytes maxL ret hh).before a A.U = true := hws _ hcode _ _ X.warmed
  have h3 : (Cond.initialized y.cls).before a A.U = true := hinit _ _ X.warmed
  have h4 : A.cells + (headSpec ws rm).room.cells ≤ R.cells := by rw [show (headSpec ws rm).room.cells = mc from hrc]; exact hp.1
  have h5 : A.slots + (headSpec ws rm).room.slots ≤ R.slots := by rw [show (headSpec ws rm).room.slots = ms from hrs]; exact hp.2.1
  have hPc : Pc a (A.U.calling g mk a) := hblind _ _ _ _ hp.2.2
  obtain ⟨U, Ls, c0, s0⟩ := A
  dsimp only [Pt.U, Pt.locs, Pt.cells, Pt.slots] at h1 h2 h3 h4 h5 X hn hPc ⊢
  obtain ⟨m9, methY, cY, hn9, hmY, hcY, -, hlY, -⟩ := Cond.codeWith_spec h2
  cases Option.some.inj (hn9.symm.trans hn)
  obtain ⟨kY, hkY, -⟩ := className_of_methodNamed hn
  have hinitY : kY.init = .initialized := Cond.initialized_spec (findClass_of_methodNamed hn) hkY h3
  have h : At U g.method c below := by rw [hg]; exact X.here
  have hlocals9 : W9 + (maxL + 11) + (headSpec ws rm).room.locals ≤ R.locals := hlocals
  have happ : (headSpec ws rm).appliesLoose y e.platform (U.calling g mk a) = true :=
    Spec.appliesLoose_calling (g := g) h hdg hn hkY hinitY
      (X.room_calling (g := g) (R' := (headSpec ws rm).room) hsize hmY hcY hframes (by rw [hlY]; omega) h4 h5) h1
  obtain ⟨mid, hmid⟩ := h.above
  have hfr : (U.setTop g).frames = (.java g :: mid) ++ below := by rw [State.frames_setTop' g h.top, hmid]; rfl
  obtain ⟨o, s₂, hsteps, -, hend, hq⟩ := Steps.callFree hM p X.admits X.cas X.clock (acts := []) hfr happ hPc trivial
  have hq' : vx_Q Qc XC mc ms free a (U.calling g mk a) o s₂ := hq
  rw [State.frames_setTop' g h.top] at hend
  obtain ⟨g₀, hg0⟩ := Option.isSome_iff_exists.mp h.top
  obtain ⟨r, hr⟩ := State.topJava?_eq_some.mp hg0
  have hr' : (({ U with heap := s₂.heap, slotsUsed := s₂.slotsUsed } : State).setVm s₂.vm).frames = .java g₀ :: r := hr
  rcases hq' with ⟨hqc, L, hfe, hL⟩ | ⟨q, rfl, E, ce, L, hx, hce, hcv, hcl, hW₂, hsm, hL⟩
  · obtain ⟨⟨v, rfl⟩, hW₂, e2, q2, q3, q4, q5, q6⟩ := id hfe
    have e3 : s₂ = ({ (U.calling g mk a).setFrames s₂.frames with heap := s₂.heap, slotsUsed := s₂.slotsUsed } : State).setVm s₂.vm := by
      have : s₂ = ({ s₂ with vm := (U.calling g mk a).vm } : State).setVm s₂.vm := rfl
      rw [e2] at this
      exact this
    obtain ⟨c₂, i₂, len₂, hc₂, hd₂, hf₂⟩ := hend
    have hW' : U.WarmedH s₂.vm := hW₂
    have hcc : c₂ = c := by
      have h1 : s₂.code? g.method = U.code? g.method := by
        rw [State.code?_eq, State.code?_eq, hW'.alike.method?]
      exact Option.some.inj (hc₂.symm.trans (h1.trans h.code))
    subst hcc
    have hlen : len₂ = len := by rw [hdg] at hd₂; cases hd₂; rfl
    subst hlen
    have hs₂ : s₂ = (({ U with heap := s₂.heap, slotsUsed := s₂.slotsUsed } : State).setVm s₂.vm).setTop { g with pc := g.pc + len₂, stack := v.toList ++ g.stack } := by
      refine e3.trans ?_
      rw [hf₂, State.calling_eq h.top, State.setFrames_setFrames, State.setTop_of_frames _ hr', hr]
      rfl
    have hsame : U.sameButNew ({ U with heap := s₂.heap, slotsUsed := s₂.slotsUsed } : State) L mc ms := by
      refine ⟨?_, q2, q3, q4, q5, q6⟩
      obtain ⟨t, ht, -⟩ := State.frames_cons hr
      show ({ U with heap := s₂.heap, slotsUsed := s₂.slotsUsed } : State) = { U.setFrames U.frames with heap := s₂.heap, slotsUsed := s₂.slotsUsed }
      rw [State.setFrames_self ht]
    subst hg
    refine Or.inl ⟨v, ⟨(({ U with heap := s₂.heap, slotsUsed := s₂.slotsUsed } : State).setVm s₂.vm), Ls ++ L, c0 + mc, s0 + ms⟩,
      ⟨X.admits, X.cas, X.clock, X.frames, X.room, X.hears, X.method, X.code, (X.here.setHeapUsed s₂.heap s₂.slotsUsed).setVm hW'.alike, X.tail, State.WarmedH.trans X.warmed hW', X.limits, X.bytes, X.same.trans (hsame.setVm s.vm)⟩,
      ⟨g, mk, s₂, L, rfl, rfl, hqc, rfl, hL, rfl, rfl⟩, ?_⟩
    show Steps p.tables e below _ ((({ U with heap := s₂.heap, slotsUsed := s₂.slotsUsed } : State).setVm s₂.vm).setTop { g with pc := g.pc + len₂, stack := v.toList ++ g.stack })
    rw [← hs₂]
    exact hsteps
  · obtain ⟨e2, q2, q3, q4, q5, q6⟩ := id hsm
    have e3 : s₂ = ({ (U.calling g mk a).setFrames s₂.frames with heap := s₂.heap, slotsUsed := s₂.slotsUsed } : State).setVm s₂.vm := by
      have : s₂ = ({ s₂ with vm := (U.calling g mk a).vm } : State).setVm s₂.vm := rfl
      rw [e2] at this
      exact this
    have hf₂ : s₂.frames = .throwing q :: .java g :: U.frames.tail := hend
    have hW' : U.WarmedH s₂.vm := hW₂
    have hs₂ : s₂ = ((({ U with heap := s₂.heap, slotsUsed := s₂.slotsUsed } : State).setVm s₂.vm).setTop g).pushFrame (.throwing q) := by
      refine e3.trans ?_
      rw [hf₂, State.calling_eq h.top, State.setFrames_setFrames, State.pushFrame, State.frames_setTop _ hr', State.setTop_of_frames _ hr', State.setFrames_setFrames, hr]
      rfl
    have hsame : U.sameButNew ({ U with heap := s₂.heap, slotsUsed := s₂.slotsUsed } : State) L mc ms := by
      refine ⟨?_, q2, q3, q4, q5, q6⟩
      obtain ⟨t, ht, -⟩ := State.frames_cons hr
      show ({ U with heap := s₂.heap, slotsUsed := s₂.slotsUsed } : State) = { U.setFrames U.frames with heap := s₂.heap, slotsUsed := s₂.slotsUsed }
      rw [State.setFrames_self ht]
    subst hg
    refine Or.inr ⟨q, ⟨(({ U with heap := s₂.heap, slotsUsed := s₂.slotsUsed } : State).setVm s₂.vm), Ls ++ L, c0 + mc, s0 + ms⟩,
      ⟨X.admits, X.cas, X.clock, X.frames, X.room, X.hears, X.method, X.code, (X.here.setHeapUsed s₂.heap s₂.slotsUsed).setVm hW'.alike, X.tail, State.WarmedH.trans X.warmed hW', X.limits, X.bytes, X.same.trans (hsame.setVm s.vm)⟩,
      ⟨g, mk, s₂, L, E, ce, rfl, rfl, hx, hce, hcv, hcl, rfl, hL, rfl, rfl⟩, ?_⟩
    show Steps p.tables e below _ (((({ U with heap := s₂.heap, slotsUsed := s₂.slotsUsed } : State).setVm s₂.vm).setTop g).pushFrame (.throwing q))
    rw [← hs₂]
    exact hsteps
end
variable {p : Program} {l : Launch} {e : Env} {R : Room} {s : State} {m : MethodId} {args : Array Value} {below : List Frame} {meth : Method} {c : Code} {T : State} {H : Heap} {locs : List Loc} {cells slots : Nat}
theorem vx_callVX (X : Stand p l e R s m args below meth c T locs cells slots) (hexec : p.tables.exec = Jvm.exec) {own C : String} {index : Nat} {y : MethodName} {bytes : ByteArray} {maxL : Nat} {ret : Option FieldType} {hh : List (Nat × Nat × Nat × Nat)}
    (hown : s.vm.findClass own = some m.cls) (hlink : (Cond.methodLink own index y).before args s = true) (hinst : (Cond.instanceMethod y).before args s = true) (hsel : (Cond.selects C y y).before args s = true)
    (hcode : (Cond.codeWith y bytes maxL ret hh).before args s = true) (hy : y.cls ≠ "java/lang/invoke/MethodHandle" ∧ y.cls ≠ "java/lang/invoke/VarHandle")
    {W9 : Nat} {Pre : Pt → Array Value → Prop} {Post : Pt → Array Value → Option Value → Pt → Prop} {PostX : Pt → Array Value → Addr → Pt → Prop} (hK : vx_Back l R p e below s args y 3 W9 Pre Post PostX)
    {b : Addr} {cellB : Cell} (hcell : T.heap[b]? = some cellB) (hobj : cellB.vm.isStatics = false) (hcls : s.vm.findClass C = some cellB.cls)
    {g : JFrame} (hg : g.method = m) (hsize : g.locals.size = c.maxLocals) {argsL rest : List Value} (hlen : ∀ sig, parseMethodDescriptor y.desc = some sig → argsL.length = sig.parameters.length)
    (hstack : g.stack = argsL.reverse ++ .ref b :: rest) (hW : 2 * g.monitorRoom + (rest.map fun v => v.category).sum ≤ W9) (hdg : decode c.code g.pc = .ok (.invokevirtual index, 3))
    (hpre : ∀ vm₁, s.WarmedH vm₁ → Pre ⟨T.setVm vm₁, locs, cells, slots⟩ (Value.ref b :: argsL).toArray) :
    (∃ (v : Option Value) (vm₁ : Vm) (B : Pt), s.WarmedH vm₁ ∧ Stand p l e R s m args below meth c B.U B.locs B.cells B.slots ∧ Post ⟨T.setVm vm₁, locs, cells, slots⟩ (Value.ref b :: argsL).toArray v B ∧
      ∀ target, Steps p.tables e below (B.U.setTop { g with pc := g.pc + 3, stack := v.toList ++ rest }) target → Steps p.tables e below (T.setTop g) target) ∨
    (∃ (q : Addr) (vm₁ : Vm) (B : Pt), s.WarmedH vm₁ ∧ Stand p l e R s m args below meth c B.U B.locs B.cells B.slots ∧ PostX ⟨T.setVm vm₁, locs, cells, slots⟩ (Value.ref b :: argsL).toArray q B ∧
      Steps p.tables e below (T.setTop g) ((B.U.setTop { g with stack := rest }).pushFrame (.throwing q))) := by
  obtain ⟨mk, methM, hnamed, hmethM, hstM, habM⟩ := Cond.instanceMethod_spec hinst
  obtain ⟨m8, methM', cM, hn8, hmethM', -, -, -, -, -, -, hsigM⟩ := Cond.codeWith_spec hcode
  cases Option.some.inj (hn8.symm.trans hnamed)
  cases hmethM.symm.trans hmethM'
  obtain ⟨c2, r2, m2, q1, q2, q3, q4, kP, hkP, hkPi⟩ := Cond.selects_spec hsel
  cases hcls.symm.trans q1
  cases (State.methodFound?_of_named hnamed hy).symm.trans q2
  cases hnamed.symm.trans q3
  have hselP : selectMethod e.platform s.vm cellB.cls mk = .method mk := by rw [Launch.admits_selectMethod X.admits]; exact q4
  obtain ⟨vm₁, X₁, hstep₁⟩ := X.invokevirtual hexec hown hlink hnamed hmethM hstM hkP hkPi hy (a := b) (cell := cellB) hcell
    (fun z h => by rw [h] at hobj; cases hobj) hselP hmethM habM hkP hkPi (g := g) hg (argsL := argsL) (rest := rest) (hlen _ hsigM) hstack hdg
  rcases hK m meth c ⟨T.setVm vm₁, locs, cells, slots⟩ { g with stack := rest } (.invokevirtual index) mk (Value.ref b :: argsL).toArray X₁ hg hsize hdg hW (X₁.named hnamed) (hpre vm₁ X₁.warmed) with ⟨v, B, X', hpost, hsteps⟩ | ⟨q, B, X', hpost, hsteps⟩
  · exact Or.inl ⟨v, vm₁, B, X₁.warmed, X', hpost, fun target h => hstep₁ _ fun acts => by rw [doInvoke_state]; exact hsteps.trans h⟩
  · exact Or.inr ⟨q, vm₁, B, X₁.warmed, X', hpost, hstep₁ _ fun acts => by rw [doInvoke_state]; exact hsteps⟩
theorem vx_callSX (X : Stand p l e R s m args below meth c T locs cells slots) (hexec : p.tables.exec = Jvm.exec) {own : String} {index : Nat} {y : MethodName} {bytes : ByteArray} {maxL : Nat} {ret : Option FieldType} {hh : List (Nat × Nat × Nat × Nat)}
    (hown : s.vm.findClass own = some m.cls) (hlink : (Cond.methodLink own index y).before args s = true) (hstat : (Cond.static y).before args s = true) (hinit : (Cond.initialized y.cls).before args s = true)
    (hcode : (Cond.codeWith y bytes maxL ret hh).before args s = true) (hy : y.cls ≠ "java/lang/invoke/MethodHandle" ∧ y.cls ≠ "java/lang/invoke/VarHandle")
    {W9 : Nat} {Pre : Pt → Array Value → Prop} {Post : Pt → Array Value → Option Value → Pt → Prop} {PostX : Pt → Array Value → Addr → Pt → Prop} (hK : vx_Back l R p e below s args y 3 W9 Pre Post PostX)
    {g : JFrame} (hg : g.method = m) (hsize : g.locals.size = c.maxLocals) {argsL rest : List Value} (hlen : ∀ sig, parseMethodDescriptor y.desc = some sig → argsL.length = sig.parameters.length)
    (hstack : g.stack = argsL.reverse ++ rest) (hW : 2 * g.monitorRoom + (rest.map fun v => v.category).sum ≤ W9) (hdg : decode c.code g.pc = .ok (.invokestatic index, 3))
    (hpre : ∀ vm₁, s.WarmedH vm₁ → Pre ⟨T.setVm vm₁, locs, cells, slots⟩ argsL.toArray) :
    (∃ (v : Option Value) (vm₁ : Vm) (B : Pt), s.WarmedH vm₁ ∧ Stand p l e R s m args below meth c B.U B.locs B.cells B.slots ∧ Post ⟨T.setVm vm₁, locs, cells, slots⟩ argsL.toArray v B ∧
      ∀ target, Steps p.tables e below (B.U.setTop { g with pc := g.pc + 3, stack := v.toList ++ rest }) target → Steps p.tables e below (T.setTop g) target) ∨
    (∃ (q : Addr) (vm₁ : Vm) (B : Pt), s.WarmedH vm₁ ∧ Stand p l e R s m args below meth c B.U B.locs B.cells B.slots ∧ PostX ⟨T.setVm vm₁, locs, cells, slots⟩ argsL.toArray q B ∧
      Steps p.tables e below (T.setTop g) ((B.U.setTop { g with stack := rest }).pushFrame (.throwing q))) := by
  obtain ⟨mk, methM, cM, hnamed, hmethM, -, -, -, -, -, -, hsigM⟩ := Cond.codeWith_spec hcode
  have hstatic : methM.isStatic = true := Cond.static_spec hnamed hmethM hstat
  obtain ⟨kP, hkP, -⟩ := className_of_methodNamed hnamed
  have hinitP : kP.init = .initialized := Cond.initialized_spec (findClass_of_methodNamed hnamed) hkP hinit
  obtain ⟨vm₁, X₁, hstep₁⟩ := X.invokestatic hexec hown hlink hnamed hmethM hstatic hkP hinitP hy (g := g) hg (argsL := argsL) (rest := rest) (hlen _ hsigM) hstack hdg
  rcases hK m meth c ⟨T.setVm vm₁, locs, cells, slots⟩ { g with stack := rest } (.invokestatic index) mk argsL.toArray X₁ hg hsize hdg hW (X₁.named hnamed) (hpre vm₁ X₁.warmed) with ⟨v, B, X', hpost, hsteps⟩ | ⟨q, B, X', hpost, hsteps⟩
  · exact Or.inl ⟨v, vm₁, B, X₁.warmed, X', hpost, fun target h => hstep₁ _ fun acts => by rw [doInvoke_state]; exact hsteps.trans h⟩
  · exact Or.inr ⟨q, vm₁, B, X₁.warmed, X', hpost, hstep₁ _ fun acts => by rw [doInvoke_state]; exact hsteps⟩
theorem vx_callVW (X : Stand p l e R s m args below meth c T locs cells slots) (hexec : p.tables.exec = Jvm.exec) {own C : String} {index : Nat} {y : MethodName} {bytes : ByteArray} {maxL : Nat} {ret : Option FieldType} {hh : List (Nat × Nat × Nat × Nat)}
    (hown : s.vm.findClass own = some m.cls) (hlink : (Cond.methodLink own index y).before args s = true) (hinst : (Cond.instanceMethod y).before args s = true) (hsel : (Cond.selects C y y).before args s = true)
    (hcode : (Cond.codeWith y bytes maxL ret hh).before args s = true) (hy : y.cls ≠ "java/lang/invoke/MethodHandle" ∧ y.cls ≠ "java/lang/invoke/VarHandle")
    {W9 : Nat} {Pre : Pt → Array Value → Prop} {Post : Pt → Array Value → Option Value → Pt → Prop} (hK : Back l R p e below s args y 3 W9 Pre Post)
    {b : Addr} {cellB : Cell} (hcell : T.heap[b]? = some cellB) (hobj : cellB.vm.isStatics = false) (hcls : s.vm.findClass C = some cellB.cls)
    {g : JFrame} (hg : g.method = m) (hsize : g.locals.size = c.maxLocals) {argsL rest : List Value} (hlen : ∀ sig, parseMethodDescriptor y.desc = some sig → argsL.length = sig.parameters.length)
    (hstack : g.stack = argsL.reverse ++ .ref b :: rest) (hW : 2 * g.monitorRoom + (rest.map fun v => v.category).sum ≤ W9) (hdg : decode c.code g.pc = .ok (.invokevirtual index, 3))
    (hpre : ∀ vm₁, s.WarmedH vm₁ → Pre ⟨T.setVm vm₁, locs, cells, slots⟩ (Value.ref b :: argsL).toArray) :
    ∃ (v : Option Value) (vm₁ : Vm) (B : Pt), s.WarmedH vm₁ ∧ Stand p l e R s m args below meth c B.U B.locs B.cells B.slots ∧ Post ⟨T.setVm vm₁, locs, cells, slots⟩ (Value.ref b :: argsL).toArray v B ∧
      ∀ target, Steps p.tables e below (B.U.setTop { g with pc := g.pc + 3, stack := v.toList ++ rest }) target → Steps p.tables e below (T.setTop g) target := by
  obtain ⟨mk, methM, hnamed, hmethM, hstM, habM⟩ := Cond.instanceMethod_spec hinst
  obtain ⟨m8, methM', cM, hn8, hmethM', -, -, -, -, -, -, hsigM⟩ := Cond.codeWith_spec hcode
  cases Option.some.inj (hn8.symm.trans hnamed)
  cases hmethM.symm.trans hmethM'
  obtain ⟨c2, r2, m2, q1, q2, q3, q4, kP, hkP, hkPi⟩ := Cond.selects_spec hsel
  cases hcls.symm.trans q1
  cases (State.methodFound?_of_named hnamed hy).symm.trans q2
  cases hnamed.symm.trans q3
  have hselP : selectMethod e.platform s.vm cellB.cls mk = .method mk := by rw [Launch.admits_selectMethod X.admits]; exact q4
  obtain ⟨vm₁, X₁, hstep₁⟩ := X.invokevirtual hexec hown hlink hnamed hmethM hstM hkP hkPi hy (a := b) (cell := cellB) hcell
    (fun z h => by rw [h] at hobj; cases hobj) hselP hmethM habM hkP hkPi (g := g) hg (argsL := argsL) (rest := rest) (hlen _ hsigM) hstack hdg
  obtain ⟨v, B, X', hpost, hsteps⟩ := hK m meth c ⟨T.setVm vm₁, locs, cells, slots⟩ { g with stack := rest } (.invokevirtual index) mk (Value.ref b :: argsL).toArray X₁ hg hsize hdg hW (X₁.named hnamed) (hpre vm₁ X₁.warmed)
  exact ⟨v, vm₁, B, X₁.warmed, X', hpost, fun target h => hstep₁ _ fun acts => by rw [doInvoke_state]; exact hsteps.trans h⟩
abbrev vx_CVW (R : Room) (s : State) (args : Array Value) (own C : String) (index : Nat) (y : MethodName) (bytes : ByteArray) (maxL : Nat) (ret : Option FieldType) (hh : List (Nat × Nat × Nat × Nat)) (ws : List Cond) (rm : Room) (mc ms n : Nat) : Prop :=
  (rm.cells = mc ∧ rm.slots = ms ∧ rm.frames + 1 ≤ R.frames ∧ 8 + (maxL + 11) + rm.locals ≤ R.locals ∧ (∀ w ∈ ws, ∀ (a' : Array Value) (U : State), s.WarmedH U.vm → w.before a' U = true) ∧ Cond.codeWith y bytes maxL ret hh ∈ ws) ∧
  (Cond.codeWith y bytes maxL ret hh).before args s = true ∧ (Cond.initialized y.cls).before args s = true ∧ (y.cls ≠ "java/lang/invoke/MethodHandle" ∧ y.cls ≠ "java/lang/invoke/VarHandle") ∧
  (∀ sig, parseMethodDescriptor y.desc = some sig → n = sig.parameters.length) ∧ (Cond.methodLink own index y).before args s = true ∧ (Cond.instanceMethod y).before args s = true ∧ (Cond.selects C y y).before args s = true
theorem vx_cwVW {own C : String} {index maxL mc ms : Nat} {y : MethodName} {bytes : ByteArray} {ret : Option FieldType} {hh : List (Nat × Nat × Nat × Nat)} {Ts ws ws' : List Cond} {rm : Room} (n : Nat) (ht : ∀ w ∈ Ts, w.before args s = true) (hT : GoodIn Ts (wsV own index C y ws)) (hw : ws = Cond.codeWith y bytes maxL ret hh :: ws') (hrc : rm.cells = mc) (hrs : rm.slots = ms)
    (hd : y.cls = C ∧ y.cls ≠ "java/lang/invoke/MethodHandle" ∧ y.cls ≠ "java/lang/invoke/VarHandle" ∧ (parseMethodDescriptor y.desc).map (fun d => d.parameters.length) = some n) (hR : rm.frames + 1 ≤ R.frames ∧ 8 + (maxL + 11) + rm.locals ≤ R.locals) :
    vx_CVW R s args own C index y bytes maxL ret hh ws rm mc ms n := by
  obtain ⟨hC, hd⟩ := hd
  subst hC
  have ok : ∀ w ∈ wsV own index y.cls y ws, w.before args s = true := fun w h => ht w (hT w h).1
  have hG : GoodIn Ts ws := fun w h => hT w (by unfold wsV; exact List.mem_append_right _ h)
  have hc : Cond.codeWith y bytes maxL ret hh ∈ ws := by rw [hw]; exact List.mem_cons_self
  refine ⟨⟨hrc, hrs, hR.1, hR.2, pay_in ht hG, hc⟩, ht _ (hG _ hc).1, ok _ (by simp [wsV]), ⟨hd.1, hd.2.1⟩, fun sig h => ?_, ok _ (by simp [wsV]), ok _ (by simp [wsV]), ok _ (by simp [wsV])⟩
  have h2 := hd.2.2
  rw [h] at h2
  exact (Option.some.inj h2).symm
theorem vx_runVW {y : MethodName} {bytes cc : ByteArray} {maxL nL mc ms n index : Nat} {ret : Option FieldType} {hh : List (Nat × Nat × Nat × Nat)} {ws : List Cond} {rm : Room} {Pc : Array Value → State → Prop} {Qc : Array Value → State → Outcome → State → Prop} {free : Addr → Prop} {Ts : List Cond} {own C : String} {b : Addr} {As rest : List Value} {g : JFrame}
    (S : CallFix p m c cc nL s args Ts own) (hM : Met l y ws rm Pc Qc mc ms free) (cw : vx_CVW R s args own C index y bytes maxL ret hh ws rm mc ms n) (hp : PreV s H C b Pc As)
    (hg : g.method = m) (hn : As.length = n) (hsize : g.locals.size = nL) (hstack : g.stack = As.reverse ++ .ref b :: rest) (hW : 2 * g.monitorRoom + (rest.map fun v => v.category).sum ≤ 8) (hdg : decode cc g.pc = .ok (.invokevirtual index, 3)) (hf : cells + mc ≤ R.cells ∧ slots + ms ≤ R.slots) :
    va_Run p l e R s m args below meth c H locs cells slots mc ms g rest (Qc (Value.ref b :: As).toArray) free := by
  obtain ⟨⟨hrc, hrs, hfr, hlo, hws, hcw⟩, hcode, hini, hy, hlen, hl, hin, hse⟩ := cw
  have hK : Back l R p e below s args y 3 8 (PreOf R mc ms Pc) (PostOf Qc mc ms free) := va_backW (hh := hh) (bytes := bytes) (maxL := maxL) (ret := ret) hM hp.1 hrc hrs hfr hlo hws hcw (fun a' U hW => word_at hW (Or.inl (by first | rfl | simp [Cond.onTables, Cond.keeps, Cond.steady])) hini)
  obtain ⟨hx, hb, hml, ho, -⟩ := S
  obtain ⟨-, ⟨cellB, hcB, hoB, hclB⟩, hPc⟩ := hp
  intro T hT X
  obtain ⟨v, vm₁, ⟨U', l2, c2, s2⟩, hW₁, X', ⟨g', mk, t, L, e1, e2, hq, h1, hL, h2, h3⟩, st⟩ := vx_callVW X hx (C := C) (hh := hh) (bytes := bytes) (maxL := maxL) (ret := ret) ho hl hin hse hcode hy hK (by rw [hT]; exact hcB) hoB hclB hg (hsize.trans hml.symm) (argsL := As) (rest := rest) (fun sig h => hn.trans (hlen sig h)) hstack hW (by rw [hb]; exact hdg)
    (fun vm₁ hW₁ => ⟨hf.1, hf.2, hPc (T.setVm vm₁) hT hW₁⟩)
  dsimp only [Pt.U, Pt.locs, Pt.cells, Pt.slots] at X' e1 e2 h1 h2 h3 st
  subst h1; subst h2; subst h3
  exact ⟨v, (T.setVm vm₁).calling g' mk (Value.ref b :: As).toArray, t, U', L, hT, X', hL, e1, e2, hq, st⟩
section
variable {y : MethodName} {bytes cc : ByteArray} {maxL nL mc ms n index : Nat} {ret : Option FieldType} {ws : List Cond} {rm : Room} {Pc : Array Value → State → Prop} {Qc : Array Value → State → Outcome → State → Prop} {XC : String → State → State → Prop} {free : Addr → Prop} {Ts : List Cond} {own C : String} {b : Addr} {As rest : List Value} {g : JFrame}
theorem vx_runVX {hh : List (Nat × Nat × Nat × Nat)} (S : CallFix p m c cc nL s args Ts own) (hM : vx_Met l y ws rm Pc Qc XC mc ms free) (cw : vx_CVW R s args own C index y bytes maxL ret hh ws rm mc ms n) (hp : PreV s H C b Pc As)
    (hg : g.method = m) (hn : As.length = n) (hsize : g.locals.size = nL) (hstack : g.stack = As.reverse ++ .ref b :: rest) (hW : 2 * g.monitorRoom + (rest.map fun v => v.category).sum ≤ 8) (hdg : decode cc g.pc = .ok (.invokevirtual index, 3)) (hf : cells + mc ≤ R.cells ∧ slots + ms ≤ R.slots) :
    vx_Run p l e R s m args below meth c H locs cells slots mc ms g rest (Qc (Value.ref b :: As).toArray) XC free := by
  obtain ⟨⟨hrc, hrs, hfr, hlo, hws, hcw⟩, hcode, hini, hy, hlen, hl, hin, hse⟩ := cw
  have hK : vx_Back l R p e below s args y 3 8 (PreOf R mc ms Pc) (PostOf Qc mc ms free) (vx_Post XC mc ms free) := vx_backW (hh := hh) (bytes := bytes) (maxL := maxL) (ret := ret) hM hp.1 hrc hrs hfr hlo hws hcw (fun a' U hW => word_at hW (Or.inl (by first | rfl | simp [Cond.onTables, Cond.keeps, Cond.steady])) hini)
  obtain ⟨hx, hb, hml, ho, -⟩ := S
  obtain ⟨-, ⟨cellB, hcB, hoB, hclB⟩, hPc⟩ := hp
  intro T hT X
  rcases vx_callVX X hx (C := C) (hh := hh) (bytes := bytes) (maxL := maxL) (ret := ret) ho hl hin hse hcode hy hK (by rw [hT]; exact hcB) hoB hclB hg (hsize.trans hml.symm) (argsL := As) (rest := rest) (fun sig h => hn.trans (hlen sig h)) hstack hW (by rw [hb]; exact hdg)
    (fun vm₁ hW₁ => ⟨hf.1, hf.2, hPc (T.setVm vm₁) hT hW₁⟩) with ⟨v, vm₁, ⟨U', l2, c2, s2⟩, hW₁, X', ⟨g', mk, t, L, e1, e2, hq, h1, hL, h2, h3⟩, st⟩ | ⟨q, vm₁, ⟨U', l2, c2, s2⟩, hW₁, X', ⟨g', mk, t, L, E, ce, e1, e2, hq, hce, hcv, hcl, h1, hL, h2, h3⟩, st⟩
  · dsimp only [Pt.U, Pt.locs, Pt.cells, Pt.slots] at X' e1 e2 h1 h2 h3 st
    subst h1; subst h2; subst h3
    exact Or.inl ⟨v, (T.setVm vm₁).calling g' mk (Value.ref b :: As).toArray, t, U', L, hT, X', hL, e1, e2, hq, st⟩
  · dsimp only [Pt.U, Pt.locs, Pt.cells, Pt.slots] at X' e1 e2 h1 h2 h3 st hcl
    subst h1; subst h2; subst h3
    exact Or.inr ⟨q, (T.setVm vm₁).calling g' mk (Value.ref b :: As).toArray, t, U', L, E, ce, hT, X', hL, e1, e2, hq, hce, hcv, vx_cls hW₁ hcl, st⟩
theorem vx_runSX {hh : List (Nat × Nat × Nat × Nat)} (S : CallFix p m c cc nL s args Ts own) (hM : vx_Met l y ws rm Pc Qc XC mc ms free) (cw : vx_CSW R s args own index y bytes maxL ret hh ws rm mc ms n) (hp : PreS s H Pc As)
    (hg : g.method = m) (hn : As.length = n) (hsize : g.locals.size = nL) (hstack : g.stack = As.reverse ++ rest) (hW : 2 * g.monitorRoom + (rest.map fun v => v.category).sum ≤ 8) (hdg : decode cc g.pc = .ok (.invokestatic index, 3)) (hf : cells + mc ≤ R.cells ∧ slots + ms ≤ R.slots) :
    vx_Run p l e R s m args below meth c H locs cells slots mc ms g rest (Qc As.toArray) XC free := by
  obtain ⟨⟨hrc, hrs, hfr, hlo, hws, hcw⟩, hcode, hini, hy, hlen, hl, hstt⟩ := cw
  have hK : vx_Back l R p e below s args y 3 8 (PreOf R mc ms Pc) (PostOf Qc mc ms free) (vx_Post XC mc ms free) := vx_backW (hh := hh) (bytes := bytes) (maxL := maxL) (ret := ret) hM hp.1 hrc hrs hfr hlo hws hcw (fun a' U hW => word_at hW (Or.inl (by first | rfl | simp [Cond.onTables, Cond.keeps, Cond.steady])) hini)
  obtain ⟨hx, hb, hml, ho, -⟩ := S
  intro T hT X
  rcases vx_callSX X hx (hh := hh) (bytes := bytes) (maxL := maxL) (ret := ret) ho hl hstt hini hcode hy hK hg (hsize.trans hml.symm) (argsL := As) (rest := rest) (fun sig h => hn.trans (hlen sig h)) hstack hW (by rw [hb]; exact hdg)
    (fun vm₁ hW₁ => ⟨hf.1, hf.2, hp.2 (T.setVm vm₁) hT hW₁⟩) with ⟨v, vm₁, ⟨U', l2, c2, s2⟩, hW₁, X', ⟨g', mk, t, L, e1, e2, hq, h1, hL, h2, h3⟩, st⟩ | ⟨q, vm₁, ⟨U', l2, c2, s2⟩, hW₁, X', ⟨g', mk, t, L, E, ce, e1, e2, hq, hce, hcv, hcl, h1, hL, h2, h3⟩, st⟩
  · dsimp only [Pt.U, Pt.locs, Pt.cells, Pt.slots] at X' e1 e2 h1 h2 h3 st
    subst h1; subst h2; subst h3
    exact Or.inl ⟨v, (T.setVm vm₁).calling g' mk As.toArray, t, U', L, hT, X', hL, e1, e2, hq, st⟩
  · dsimp only [Pt.U, Pt.locs, Pt.cells, Pt.slots] at X' e1 e2 h1 h2 h3 st hcl
    subst h1; subst h2; subst h3
    exact Or.inr ⟨q, (T.setVm vm₁).calling g' mk As.toArray, t, U', L, E, ce, hT, X', hL, e1, e2, hq, hce, hcv, vx_cls hW₁ hcl, st⟩
end
end VXH
theorem vx_ofWH {l : Launch} {y : MethodName} {ws ws' : List Cond} {rm : Room} {Pc : Array Value → State → Prop} {Qc : Array Value → State → Outcome → State → Prop} {XC : String → State → State → Prop} {mc ms : Nat} {free : Addr → Prop} {cc : ByteArray} {maxL : Nat} {ret : Option FieldType} {hh : List (Nat × Nat × Nat × Nat)}
    (hy : plainName y.cls = true) (hw : ws = Cond.codeWith y cc maxL ret hh :: ws')
    (body : ∀ p e s m args below meth c s₁, BodyLoose p l y (headSpec ws rm) cc maxL ret e s m args below meth c s₁ → c.maxLocals = maxL → Pc args s →
      W p l e (headSpec ws rm).room s m args below meth c s.heap [] 0 0 (vx_MQ below Qc XC args s mc ms free) (entryFrame m args maxL)) : vx_Met l y ws rm Pc Qc XC mc ms free := by
  refine MetFree.of_bodyS (code := cc) (maxLocals := maxL) (ret := ret) hy ?_ ?_
  · intro args s m h hn
    obtain ⟨m9, meth, c, hn9, h1, h2, h3, h4, -, h5, h6, -⟩ := Cond.codeWith_spec (atoms_spec (ws := ws) h _ (by rw [hw]; exact List.mem_cons_self))
    cases hn.symm.trans hn9
    exact ⟨meth, c, h1, h2, h3, h4, h5, h6⟩
  · intro p e s m args below meth c s₁ B hml hP _
    have hh0 : s₁.heap = s.heap := by rw [B.state]; rfl
    obtain ⟨t, a1, o, b1, b2, b3⟩ := body p e s m args below meth c s₁ B hml hP s₁ hh0 (Stand.of_body B)
    exact ⟨t, o, a1, b1, b2, b3⟩
/-! ===== END ===== -/

/-! ===== BEGIN what the machine throws by itself, no traces kept ===== -/
section VXM
set_option maxHeartbeats 1000000 in
/-- the machine throws cls with the message text, no traces kept: from its note over the frame g to 'throwing' over the same frame (follows the proofs of Stand.vmThrowsMessage, Shelf/KitTracedVmS.lean, and Stand.throwsMessageColdBareV, StandMessageColdV.lean, without the step out of the frame) -/
theorem vx_vmAt {p : Program} {l : Launch} {e : Env} {R : Room} {s : State} {m₀ : MethodId} {args : Array Value} {below : List Frame} {meth : Method} {c : Code} {W : State} {locs : List Loc} {cells slots : Nat}
    (X : Stand p l e R s m₀ args below meth c W locs cells slots) (hexec : p.tables.exec = Jvm.exec) (htr : e.platform.stackTraces = false) {cls : String} {names : List String} {text : String}
    (hcls : Bundle.fit cls = true) (hnames : ∀ n ∈ names, Bundle.fit n = true) (hsoe : (cls == "java/lang/StackOverflowError") = false) (hoom : (cls == "java/lang/OutOfMemoryError") = false)
    (h : ∀ a ∈ Bundle.messageArmAtoms cls names, a.before args s = true)
    (hlocs : ∀ x ∈ locs, ∀ cell, s.heap[x.base]? = some cell → cell.vm.isStatics = false)
    (htext : (text == notModelled) = false) (hlimit : ¬ (stringBytes (stringToUtf16 text)).size > e.platform.arrayLengthLimit) (hheap : ¬ (stringBytes (stringToUtf16 text)).size * componentBytes .byte > e.platform.maxHeapBytes)
    {g : JFrame} (hg : g.method = m₀) (hsize : g.locals.size = c.maxLocals)
    (hRframes : names.length + 4 < R.frames) (hRlocals : 2 * g.monitorRoom + (g.stack.map fun v => v.category).sum + 10240 ≤ R.locals) (hshort : 13 * names.length + 55 ≤ 10240)
    (hRcells : cells + 3 ≤ R.cells) (hRslots : slots + ((stringBytes (stringToUtf16 text)).size + 4 + 6) ≤ R.slots) (hlocks : meth.locks = false) :
    ∃ (S : State) (q : Addr) (ce : Cell), (∀ target, Steps p.tables e below ((S.setTop g).pushFrame (.throwing q)) target → Steps p.tables e below ((W.setTop g).pushFrame (.throwNew cls (some text) none)) target) ∧
      Stand p l e R s m₀ args below meth c S locs (cells + 3) (slots + ((stringBytes (stringToUtf16 text)).size + 4 + 6)) ∧ S.heap[q]? = some ce ∧ s.vm.findClass cls = some ce.cls ∧ ce.vm = .none := by
  have howns : e.platform.frameOwnsMonitors = true := by rw [X.admits.platform]
  have hfin : e.platform.finalization = false := by rw [X.admits.platform]
  have hpl : e.platform.magicAccessors = ({} : Platform).magicAccessors := by rw [X.admits.platform]
  have a : ∀ x, x ∈ Bundle.messageArmAtoms cls names → x.holds args s none s [] = true := fun x hx => h x hx
  obtain ⟨T, Z0, L, -, Y⟩ := ThrowableC.of_atoms (args := args) howns hfin hpl (fun x hx => h x (by simp [Bundle.messageArmAtoms, hx]))
  obtain ⟨Z, M, LZ, LM, hnZ⟩ := Init0T.ofS_atoms (args := args) hpl L Y (fun x hx => h x (by simp [Bundle.messageArmAtoms, hx]))
  obtain ⟨P1, Ps, hlen, L1, hL, hP1m, hlink1, hlink⟩ := Bundle.chainS (args := args) hpl hnZ names cls hcls hnames (fun x hx => h x (by simp [Bundle.messageArmAtoms, hx]))
  obtain ⟨Zs, LZs, hn4, hfitv, hfitc⟩ := StringT.of_atoms (args := args) (fun x hx => h x (by simp [Bundle.messageArmAtoms, hx]))
  have hfound : s.vm.findClass cls = some P1.m.cls := findClass_of_methodNamed hP1m
  obtain ⟨c1, kX, hc1, hk, hord, -, -, hn6⟩ := Cond.instantiable_spec (a (.instantiable cls 6) (by simp [Bundle.messageArmAtoms]))
  cases Option.some.inj (hc1.symm.trans hfound)
  have hinit := Cond.initialized_spec hfound hk (a (.initialized cls) (by simp [Bundle.messageArmAtoms]))
  have hctor : kX.findMethod "<init>" "(Ljava/lang/String;)V" = some P1.m.idx := findMethod_of_methodNamed hP1m hk
  have hsel0 : selectMethod e.platform s.vm P1.m.cls T.fill0 = .method T.fill0 := by
    obtain ⟨c2, r2, m2, q1, q2, q3, q4, -⟩ := Cond.selects_spec (a (.selects cls Bundle.tFill0 Bundle.tFill0) (by simp [Bundle.messageArmAtoms]))
    cases Option.some.inj (q1.symm.trans hfound)
    cases Option.some.inj (q2.symm.trans (State.methodFound?_of_named Y.fill0 (by decide)))
    cases Option.some.inj (q3.symm.trans Y.fill0)
    rw [Launch.admits_selectMethod X.admits]; exact q4
  have hselF : selectMethod e.platform s.vm P1.m.cls T.fill = .method T.fill := by
    obtain ⟨c2, r2, m2, q1, q2, q3, q4, -⟩ := Cond.selects_spec (a (.selects cls Bundle.tFill Bundle.tFill) (by simp [Bundle.messageArmAtoms]))
    cases Option.some.inj (q1.symm.trans hfound)
    cases Option.some.inj (q2.symm.trans (State.methodFound?_of_named Y.fill (by decide)))
    cases Option.some.inj (q3.symm.trans Y.fill)
    rw [Launch.admits_selectMethod X.admits]; exact q4
  obtain ⟨cellS0, hcS0, hiss⟩ := Y.statics
  obtain ⟨u0, hu0⟩ := Cond.staticRefV Y.unassigned L.unassignedStatic L.statics hcS0 hiss (a (.isRef (.static Bundle.tN "UNASSIGNED_STACK" Bundle.steD)) (by simp [Bundle.messageArmAtoms]))
  obtain ⟨sen, hsen⟩ := Cond.staticRefV Y.sentinel L.sentinelStatic L.statics hcS0 hiss (a (.isRef (.static Bundle.tN "SUPPRESSED_SENTINEL" Bundle.listD)) (by simp [Bundle.messageArmAtoms]))
  obtain ⟨ci198, i198, fB, hk198, hg198, ha198, hsB, -, hnB, htB, hffB⟩ := Cond.ownField (t := .object "java/lang/Object") Y.found L.cls (by decide +kernel) (a (.fieldLink Bundle.tN 198 Bundle.tN "backtrace" "Ljava/lang/Object;") (by simp [Bundle.messageArmAtoms])) (a (.lays Bundle.tN Bundle.tN "backtrace" "Ljava/lang/Object;") (by simp [Bundle.messageArmAtoms])) e.platform hpl
  obtain ⟨cellS, hcS', heS, -, hkeep⟩ := X.same.2.2.2.2.2 T.aS cellS0 hcS0
  have hcellS : W.heap[T.aS]? = some cellS := hcS'
  have hout' : ∀ i, (⟨T.aS, i⟩ : Loc) ∉ locs := fun i hmem => by
    have := hlocs _ hmem cellS0 hcS0
    rw [hiss] at this; cases this
  have hknownS : cellS.vm ≠ .unknown := by
    rw [heS]; intro hu
    rw [show cellS0.vm = .unknown from hu] at hiss
    cases hiss
  have hvU : cellS.slots[T.fUnassigned.slot]? = some u0.v := by rw [hkeep _ (hout' _)]; exact hu0
  have hvSen : cellS.slots[T.fSentinel.slot]? = some sen.v := by rw [hkeep _ (hout' _)]; exact hsen
  obtain ⟨iM, hffM⟩ := Y.msg
  obtain ⟨tyC, dC, hdC, hdnC⟩ := Cond.laysAt hfound hk Y.cause (a (.lays cls Bundle.tN "cause" "Ljava/lang/Throwable;") (by simp [Bundle.messageArmAtoms]))
  obtain ⟨tyS, dS, hdS, hdnS⟩ := Cond.laysAt hfound hk Y.stack (a (.lays cls Bundle.tN "stackTrace" Bundle.steD) (by simp [Bundle.messageArmAtoms]))
  obtain ⟨tyP, dP, hdP, hdnP⟩ := Cond.laysAt hfound hk Y.supp (a (.lays cls Bundle.tN "suppressedExceptions" Bundle.listD) (by simp [Bundle.messageArmAtoms]))
  obtain ⟨tyM, dM, hdM, hdnM⟩ := Cond.laysAt hfound hk hffM (a (.lays cls Bundle.tN "detailMessage" "Ljava/lang/String;") (by simp [Bundle.messageArmAtoms]))
  obtain ⟨tyB, dB, hdB, hdnB⟩ := Cond.laysAt hfound hk hffB (a (.lays cls Bundle.tN "backtrace" "Ljava/lang/Object;") (by simp [Bundle.messageArmAtoms]))
  have bC := Cond.laysApart hdB hdC hdnB hdnC (by rw [hnB, Y.causeName]; decide)
  have bS := Cond.laysApart hdB hdS hdnB hdnS (by rw [hnB, Y.stackName]; decide)
  have bP := Cond.laysApart hdB hdP hdnB hdnP (by rw [hnB, Y.suppName]; decide)
  have hbk : ((preparedCellV T.toThrowableT (freshCell P1.m.cls kX) (W.heap.size + 2) u0 sen).withEntry W.cur).slots[fB.slot]? = some .null := by
    have := fresh_default (c := P1.m.cls) tyB
    rw [htB] at this
    simpa [preparedCellV, Cell.setSlot, Cell.withEntry, Array.getElem?_setIfInBounds, bC, bS, bP, bC.symm, bS.symm, bP.symm, defaultValue] using this
  have tkC := Takes.of_laid (v := .ref (W.heap.size + 2)) hk hord tyC (by rw [Y.causeType]; rfl)
  have tkS := Takes.of_laid (v := u0.v) hk hord tyS (by rw [Y.stackType]; exact fits_refV_array _ u0)
  have tkP := Takes.of_laid (v := sen.v) hk hord tyP (by rw [Y.suppType]; exact fits_refV_object _ sen)
  have tkM := Takes.of_laid (v := .ref (W.heap.size + 1)) hk hord tyM (by rw [Y.msgType]; rfl)
  have hskip : SkipFacts T e.platform s (fun u => u) u0 ((preparedCellV T.toThrowableT (freshCell P1.m.cls kX) (W.heap.size + 2) u0 sen).withEntry W.cur) := ⟨{ ci198 := ci198, i198 := i198, fBack := fB }, ⟨hk198, hg198, ha198, hsB⟩, hbk, fun _ _ => rfl⟩
  have h0 : At W g.method c below := by rw [hg]; exact X.here
  obtain ⟨hbeyond, hfreeW⟩ := X.vmMayThrow hsize (.throwNew cls (some text) none) (fun f hf => by cases hf) rfl hRlocals
  have hfr' : W.frames.length + Ps.length + 4 < (e.platform.stackLimits W.me).1 := by have := X.framesAbove hRframes; omega
  have hwd' : (stackUse (.java g :: W.frames.tail)).2 + 13 * Ps.length + 55 ≤ (e.platform.stackLimits W.me).2 := by have := X.stackAbove hsize (K := 13 * Ps.length + 55) (by omega); omega
  have hslots : W.slotsUsed + (stringBytes (stringToUtf16 text)).size + Zs.kS.instanceTypes.size + kX.instanceTypes.size ≤ e.platform.maxSlots := by
    have := X.slotsAbove hRslots
    rw [hn4, hn6]
    omega
  obtain ⟨vm', hW', st⟩ := Steps.vmThrowsMessageColdByV p (s₀ := s) (S := W) (g := g) h0 hexec T L Z LZ M LM X.warmed (t := W.cur) rfl Zs LZs P1 L1 Ps hL hlink1 hlink hsoe hoom hfound hk hinit hord hctor
    (Launch.admits_hotImplicitExceptions X.admits) hbeyond hfreeW htext hlimit hheap (X.cellsAbove hRcells) hslots (hfitv _) (hfitc _)
    (Nn := fun u => u) heapOnly_id (fun _ _ => rfl) (fun _ => rfl) (fun u x y => setCell_twice _ _ _ _) (fun _ => Nat.le_refl _) (cN := ((preparedCellV T.toThrowableT (freshCell P1.m.cls kX) (W.heap.size + 2) u0 sen).withEntry W.cur))
    hsel0 hcellS hknownS hvU tkS (fun _ hu => hu) (fun _ hu => hu) rfl rfl rfl (by simp [preparedCellV, Cell.setSlot, Cell.withEntry]) hskip (fun _ _ hA hW _ hroom _ hrest => L.nativeOff p htr hA hW hroom hrest) hselF hvSen tkC tkP tkM Y.objLocals rfl hfr' hwd'
  rw [plainBareV_eq T.toThrowableT (W.heap.size + 2) u0 sen (.ref (W.heap.size + 1)) W.cur rfl rfl] at st
  obtain ⟨-, -, w3, w4, -, -, -⟩ := withThrown_facts e.platform W Zs text P1.m.cls kX
  have X3 := ((X.pushed (bytesOf Zs.cB (stringToUtf16 text))).pushed (stringAt Zs.cS Zs.kS Zs.fv Zs.fc (stringToUtf16 text) W.heap.size)).pushed (freshCell P1.m.cls kX)
  rw [← withString_eq] at X3
  have X4 := X3.noted hW'
  have ha : (W.heap.size + 2) < ((withThrown W Zs text P1.m.cls kX).setVm vm').heap.size := by show _ < (withThrown W Zs text P1.m.cls kX).heap.size; rw [w3]; omega
  have hcell : ((withThrown W Zs text P1.m.cls kX).setVm vm').heap[(W.heap.size + 2)]? = some (freshCell P1.m.cls kX) := w4
  have X5 := ((((X4.stored hcell T.fCause.slot (.ref (W.heap.size + 2))).storedAgain ha T.fStack.slot u0.v).storedAgain ha T.fSupp.slot sen.v).storedAgain ha T.fStack.slot u0.v).storedAgain ha T.fMsg.slot (.ref (W.heap.size + 1))
  obtain ⟨g₁, hfrM⟩ := X5.frames_eq
  have hU : ((((withThrown W Zs text P1.m.cls kX).setVm vm').setCell (W.heap.size + 2) (plainBareV T.toThrowableT (freshCell P1.m.cls kX) (W.heap.size + 2) u0 sen (.ref (W.heap.size + 1)))).setTop g).pushFrame (.throwing (W.heap.size + 2)) = (((withThrown W Zs text P1.m.cls kX).setVm vm').setCell (W.heap.size + 2) (plainBareV T.toThrowableT (freshCell P1.m.cls kX) (W.heap.size + 2) u0 sen (.ref (W.heap.size + 1)))).setFrames (.throwing (W.heap.size + 2) :: .java g :: below) := by
    rw [State.pushFrame, State.frames_setTop _ hfrM, State.setTop_of_frames _ hfrM, State.setFrames_setFrames]
  have b1 : (bytesOf Zs.cB (stringToUtf16 text)).slots.size = (stringBytes (stringToUtf16 text)).size := by
    rw [(Cell.writeAll_facts _ _).2.2]; simp [bytes0]
  have b2 : (stringAt Zs.cS Zs.kS Zs.fv Zs.fc (stringToUtf16 text) W.heap.size).slots.size = 4 := by simp [string0, Cell.setSlot, hn4]
  have b3 : (freshCell P1.m.cls kX).slots.size = 6 := by simp [hn6]
  rw [b1, b2, b3] at X5
  have e9 : slots + (stringBytes (stringToUtf16 text)).size + 4 + 6 = slots + ((stringBytes (stringToUtf16 text)).size + 4 + 6) := by omega
  rw [e9] at X5
  simp only [List.append_assoc, List.cons_append, List.nil_append] at X5
  refine ⟨((withThrown W Zs text P1.m.cls kX).setVm vm').setCell (W.heap.size + 2) (plainBareV T.toThrowableT (freshCell P1.m.cls kX) (W.heap.size + 2) u0 sen (.ref (W.heap.size + 1))), W.heap.size + 2, _, fun target ht => st _ (by rw [X.tail, ← hU]; exact ht),
    X5.forget (fun y hy => ?_), heapAt_setCell_self _ ha, hfound, rfl⟩
  simp only [List.mem_cons, List.not_mem_nil, or_false] at hy
  have hge : s.heap.size ≤ W.heap.size := X.same.2.1
  rcases hy with rfl | rfl | rfl | rfl | rfl <;> exact Nat.le_trans hge (Nat.le_add_right _ 2)
set_option maxHeartbeats 1000000 in
/-- the machine throws NullPointerException, no traces kept: from its note over the frame g to 'throwing' over the same frame (follows the proof of Stand.vmThrowsNpe, Shelf42/KT2.lean; throwsNpeColdBareVAt, Shelf42/NT91.lean, called) -/
theorem vx_npeAt {p : Program} {l : Launch} {e : Env} {R : Room} {s : State} {m₀ : MethodId} {args : Array Value} {below : List Frame} {meth : Method} {c : Code} {W : State} {locs : List Loc} {cells slots : Nat}
    (X : Stand p l e R s m₀ args below meth c W locs cells slots) (hexec : p.tables.exec = Jvm.exec) (htr : e.platform.stackTraces = false) {n : Nat}
    (h : ∀ a ∈ Bundle.npeArmAtoms n, a.before args s = true)
    (hlocs : ∀ x ∈ locs, ∀ cell, s.heap[x.base]? = some cell → cell.vm.isStatics = false)
    {g : JFrame} (hg : g.method = m₀) (hsize : g.locals.size = c.maxLocals)
    (hRframes : 7 < R.frames) (hRlocals : 2 * g.monitorRoom + (g.stack.map fun v => v.category).sum + 10240 ≤ R.locals)
    (hRcells : cells + 1 ≤ R.cells) (hRslots : slots + n ≤ R.slots) (hlocks : meth.locks = false) :
    ∃ (S : State) (q : Addr) (ce : Cell), (∀ target, Steps p.tables e below ((S.setTop g).pushFrame (.throwing q)) target → Steps p.tables e below ((W.setTop g).pushFrame (.throwNew "java/lang/NullPointerException" none none)) target) ∧
      Stand p l e R s m₀ args below meth c S locs (cells + 1) (slots + n) ∧ S.heap[q]? = some ce ∧ s.vm.findClass "java/lang/NullPointerException" = some ce.cls ∧ ce.vm = .none := by
  have howns : e.platform.frameOwnsMonitors = true := by rw [X.admits.platform]
  have hfin : e.platform.finalization = false := by rw [X.admits.platform]
  have hpl : e.platform.magicAccessors = ({} : Platform).magicAccessors := by rw [X.admits.platform]
  have hpl2 : e.platform.arrayCloneIsPublic = true := by rw [X.admits.platform]
  have a' : ∀ x, x ∈ Bundle.npeArmAtoms n → x.holds args s none s [] = true := fun x hx => h x hx
  obtain ⟨T, Z, L, LZ, Y⟩ := ThrowableC.of_atoms (args := args) howns hfin hpl (fun x hx => h x (by simp [Bundle.npeArmAtoms, hx]))
  obtain ⟨N, LN, hcN, hnNF, hordN, hffS⟩ := NpeC.of_atoms (args := args) hpl hpl2 L Y (fun x hx => h x (by simp [Bundle.npeArmAtoms, hx]))
  obtain ⟨P1, L1, hP1m, hP1s⟩ := PassC.of_atoms (args := args) (s := s) hpl (X := Bundle.nN) (Y := Bundle.rN) (by decide) (by decide) LibCode.NullPointerException.Init0.at_0 LibCode.NullPointerException.Init0.at_1 LibCode.NullPointerException.Init0.at_4 (fun x hx => h x (by simp [Bundle.npeArmAtoms, hx]))
  obtain ⟨PR, LR, hPRm, hPRs⟩ := PassC.of_atoms (args := args) (s := s) hpl (X := Bundle.rN) (Y := Bundle.eN) (by decide) (by decide) LibCode.RuntimeException.Init0.at_0 LibCode.RuntimeException.Init0.at_1 LibCode.RuntimeException.Init0.at_4 (fun x hx => h x (by simp [Bundle.npeArmAtoms, hx]))
  obtain ⟨PE, LEx, hPEm, hPEs⟩ := PassC.of_atoms (args := args) (s := s) hpl (X := Bundle.eN) (Y := Bundle.tN) (by decide) (by decide) LibCode.Exception.Init0.at_0 LibCode.Exception.Init0.at_1 LibCode.Exception.Init0.at_4 (fun x hx => h x (by simp [Bundle.npeArmAtoms, hx]))
  have hfound : s.vm.findClass Bundle.nN = some P1.m.cls := findClass_of_methodNamed hP1m
  have ecls : N.cN = P1.m.cls := Option.some.inj (hcN.symm.trans hfound)
  have hk : s.vm.classes[P1.m.cls]? = some N.kN := by rw [← ecls]; exact LN.cls
  have hinit := Cond.initialized_spec hfound hk (a' (.initialized Bundle.nN) (by simp [Bundle.npeArmAtoms]))
  have hctor : N.kN.findMethod "<init>" "()V" = some P1.m.idx := findMethod_of_methodNamed hP1m hk
  obtain ⟨c1, k1, hc1, hk1, -, -, -, hn⟩ := Cond.instantiable_spec (a' (.instantiable Bundle.nN n) (by simp [Bundle.npeArmAtoms]))
  cases Option.some.inj (hc1.symm.trans hfound)
  cases Option.some.inj (hk1.symm.trans hk)
  have hfsz : (freshCell P1.m.cls N.kN).slots.size = n := by simp [hn]
  have hlink1 : P1.sup = PR.m := Option.some.inj (hP1s.symm.trans hPRm)
  have hlinkR : PR.sup = PE.m := Option.some.inj (hPRs.symm.trans hPEm)
  have hlinkE : PE.sup = Z.m T.toThrowableT := Option.some.inj (hPEs.symm.trans Y.init0)
  have hLs : ∀ P, P ∈ [PR, PE] → P.Links0 e.platform s := fun P hP => by
    simp only [List.mem_cons, List.not_mem_nil, or_false] at hP
    rcases hP with rfl | rfl
    · exact LR
    · exact LEx
  have hsel0 : selectMethod e.platform s.vm P1.m.cls T.fill0 = .method T.fill0 := by
    obtain ⟨c2, r2, m2, q1, q2, q3, q4, -⟩ := Cond.selects_spec (a' (.selects Bundle.nN Bundle.tFill0 Bundle.tFill0) (by simp [Bundle.npeArmAtoms]))
    cases Option.some.inj (q1.symm.trans hfound)
    cases Option.some.inj (q2.symm.trans (State.methodFound?_of_named Y.fill0 (by decide)))
    cases Option.some.inj (q3.symm.trans Y.fill0)
    rw [Launch.admits_selectMethod X.admits]; exact q4
  have hselF : selectMethod e.platform s.vm P1.m.cls T.fill = .method N.fill := by
    obtain ⟨c2, r2, m2, q1, q2, q3, q4, -⟩ := Cond.selects_spec (a' (.selects Bundle.nN Bundle.tFill Bundle.nFill) (by simp [Bundle.npeArmAtoms]))
    cases Option.some.inj (q1.symm.trans hfound)
    cases Option.some.inj (q2.symm.trans (State.methodFound?_of_named Y.fill (by decide)))
    cases Option.some.inj (q3.symm.trans hnNF)
    rw [Launch.admits_selectMethod X.admits]; exact q4
  obtain ⟨cellS0, hcS0, hiss⟩ := Y.statics
  obtain ⟨u0, hu0⟩ := Cond.staticRefV Y.unassigned L.unassignedStatic L.statics hcS0 hiss (a' (.isRef (.static Bundle.tN "UNASSIGNED_STACK" Bundle.steD)) (by simp [Bundle.npeArmAtoms]))
  obtain ⟨sen, hsen⟩ := Cond.staticRefV Y.sentinel L.sentinelStatic L.statics hcS0 hiss (a' (.isRef (.static Bundle.tN "SUPPRESSED_SENTINEL" Bundle.listD)) (by simp [Bundle.npeArmAtoms]))
  obtain ⟨ci198, i198, fB, hk198, hg198, ha198, hsB, -, hnB, htB, hffB⟩ := Cond.ownField (t := .object "java/lang/Object") Y.found L.cls (by decide +kernel) (a' (.fieldLink Bundle.tN 198 Bundle.tN "backtrace" Bundle.objD) (by simp [Bundle.npeArmAtoms])) (a' (.lays Bundle.tN Bundle.tN "backtrace" Bundle.objD) (by simp [Bundle.npeArmAtoms])) e.platform hpl
  obtain ⟨cellS, hcS', heS, -, hkeep⟩ := X.same.2.2.2.2.2 T.aS cellS0 hcS0
  have hcellS : W.heap[T.aS]? = some cellS := hcS'
  have hout' : ∀ i, (⟨T.aS, i⟩ : Loc) ∉ locs := fun i hmem => by
    have := hlocs _ hmem cellS0 hcS0
    rw [hiss] at this; cases this
  have hknownS : cellS.vm ≠ .unknown := by
    rw [heS]; intro hu
    rw [show cellS0.vm = .unknown from hu] at hiss
    cases hiss
  have hvU : cellS.slots[T.fUnassigned.slot]? = some u0.v := by rw [hkeep _ (hout' _)]; exact hu0
  have hvSen : cellS.slots[T.fSentinel.slot]? = some sen.v := by rw [hkeep _ (hout' _)]; exact hsen
  obtain ⟨tyC, dC, hdC, hdnC⟩ := Cond.laysAt hfound hk Y.cause (a' (.lays Bundle.nN Bundle.tN "cause" "Ljava/lang/Throwable;") (by simp [Bundle.npeArmAtoms]))
  obtain ⟨tyS, dS, hdS, hdnS⟩ := Cond.laysAt hfound hk Y.stack (a' (.lays Bundle.nN Bundle.tN "stackTrace" Bundle.steD) (by simp [Bundle.npeArmAtoms]))
  obtain ⟨tyP, dP, hdP, hdnP⟩ := Cond.laysAt hfound hk Y.supp (a' (.lays Bundle.nN Bundle.tN "suppressedExceptions" Bundle.listD) (by simp [Bundle.npeArmAtoms]))
  obtain ⟨tyX, dX, hdX, hdnX⟩ := Cond.laysAt hfound hk hffS (a' (.lays Bundle.nN Bundle.nN "extendedMessageState" "I") (by simp [Bundle.npeArmAtoms, Bundle.npeAtoms]))
  obtain ⟨hnX, htX⟩ := State.fieldFound?_type hffS (t := .int) (by decide +kernel)
  have xC := Cond.laysApart hdC hdX hdnC hdnX (by rw [hnX, Y.causeName]; decide)
  have xS := Cond.laysApart hdS hdX hdnS hdnX (by rw [hnX, Y.stackName]; decide)
  have xP := Cond.laysApart hdP hdX hdnP hdnX (by rw [hnX, Y.suppName]; decide)
  have hv0 : (freshCell P1.m.cls N.kN).slots[N.fState.slot]? = some (.int 0) := by
    have := fresh_default (c := P1.m.cls) tyX
    rw [htX] at this; exact this
  obtain ⟨tyB, dB, hdB, hdnB⟩ := Cond.laysAt hfound hk hffB (a' (.lays Bundle.nN Bundle.tN "backtrace" Bundle.objD) (by simp [Bundle.npeArmAtoms]))
  have bC := Cond.laysApart hdB hdC hdnB hdnC (by rw [hnB, Y.causeName]; decide)
  have bS := Cond.laysApart hdB hdS hdnB hdnS (by rw [hnB, Y.stackName]; decide)
  have bP := Cond.laysApart hdB hdP hdnB hdnP (by rw [hnB, Y.suppName]; decide)
  have bX := Cond.laysApart hdB hdX hdnB hdnX (by rw [hnB, hnX]; decide)
  have hbk : ((npeCell N.toNpeT (preparedCellV T.toThrowableT (freshCell P1.m.cls N.kN) W.heap.size u0 sen) W.cur).withEntry W.cur).slots[fB.slot]? = some .null := by
    have := fresh_default (c := P1.m.cls) tyB
    rw [htB] at this
    simpa [npeCell, preparedCellV, Cell.setSlot, Cell.withEntry, Array.getElem?_setIfInBounds, bC, bS, bP, bX, bC.symm, bS.symm, bP.symm, bX.symm, defaultValue] using this
  have tkC := Takes.of_laid (v := .ref W.heap.size) hk hordN tyC (by rw [Y.causeType]; rfl)
  have tkS := Takes.of_laid (v := u0.v) hk hordN tyS (by rw [Y.stackType]; exact fits_refV_array _ u0)
  have tkP := Takes.of_laid (v := sen.v) hk hordN tyP (by rw [Y.suppType]; exact fits_refV_object _ sen)
  have tkX := Takes.of_laid (v := .int 1) hk hordN tyX (by rw [htX]; rfl)
  have hskip : SkipFacts T e.platform s (fun u => u) u0 ((npeCell N.toNpeT (preparedCellV T.toThrowableT (freshCell P1.m.cls N.kN) W.heap.size u0 sen) W.cur).withEntry W.cur) := ⟨{ ci198 := ci198, i198 := i198, fBack := fB }, ⟨hk198, hg198, ha198, hsB⟩, hbk, fun _ _ => rfl⟩
  obtain ⟨vm', X3, st, -⟩ := X.throwsNpeColdBareVAt hexec hg hsize T L Z LZ N LN P1 L1 [PR, PE] hLs hlink1 ⟨hlinkR, hlinkE, trivial⟩ hfound hk hinit hordN hctor hsel0 hselF hcellS hknownS hvU hvSen
    hv0 xC xS xP tkC tkS tkP tkX Y.objLocals hskip (fun _ _ hA hW _ hroom _ hrest => L.nativeOff p htr hA hW hroom hrest) (by simpa using hRframes) hRlocals (by simp) hRcells (by rw [hn]; exact hRslots)
  have hlt : W.heap.size < ((W.pushCell (freshCell P1.m.cls N.kN)).setVm vm').heap.size := by
    show W.heap.size < (W.pushCell (freshCell P1.m.cls N.kN)).heap.size
    rw [State.heap_size_pushCell]; omega
  rw [hfsz] at X3
  obtain ⟨g₁, hfrM⟩ := X3.frames_eq
  have hU : ((((W.pushCell (freshCell P1.m.cls N.kN)).setVm vm').setCell W.heap.size (npeBareV T.toThrowableT N.toNpeT (freshCell P1.m.cls N.kN) W.heap.size u0 sen)).setTop g).pushFrame (.throwing W.heap.size) = (((W.pushCell (freshCell P1.m.cls N.kN)).setVm vm').setCell W.heap.size (npeBareV T.toThrowableT N.toNpeT (freshCell P1.m.cls N.kN) W.heap.size u0 sen)).setFrames (.throwing W.heap.size :: .java g :: below) := by
    rw [State.pushFrame, State.frames_setTop _ hfrM, State.setTop_of_frames _ hfrM, State.setFrames_setFrames]
  refine ⟨_, W.heap.size, _, fun target ht => st.trans (by rw [← hU]; exact ht), X3.forget (fun y hy => ?_), heapAt_setCell_self _ hlt, hfound, rfl⟩
  simp only [List.mem_cons, List.not_mem_nil, or_false] at hy
  have hge : s.heap.size ≤ W.heap.size := X.same.2.1
  rcases hy with rfl | rfl | rfl | rfl | rfl <;> exact hge
/-- the words of a machine's NullPointerException, but the four that speak of the heap -/
def vx_atN (n : Nat) : List Cond := (Bundle.npeArmAtoms n).filter vx_no
/-- the words of a machine's throw with a message, but the four that speak of the heap -/
def vx_atM (X : String) (names : List String) : List Cond := (Bundle.messageArmAtoms X names).filter vx_no
section
variable {p : Program} {l : Launch} {e : Env} {R : Room} {s : State} {m : MethodId} {args : Array Value} {below : List Frame} {meth : Method} {c : Code} {H : Heap} {locs : List Loc} {cells slots : Nat}
/-- a frame seen from a rebased start, seen from the first start again -/
theorem vx_back9 {T S : State} {R' : Room} {k n : Nat} (X : Stand p l e R s m args below meth c T locs cells slots) (Y : Stand p l e R' ((T.setVm s.vm).setFrames (.invoking m args :: below)) m args below meth c T [] 0 0) (Z : Stand p l e R' ((T.setVm s.vm).setFrames (.invoking m args :: below)) m args below meth c S [] k n) :
    Stand p l e R s m args below meth c S locs (cells + k) (slots + n) := by
  have hW0 : s.WarmedH ((T.setVm s.vm).setFrames (.invoking m args :: below)).vm := State.WarmedH.refl s
  refine { admits := X.admits, cas := X.cas, clock := X.clock, frames := X.frames, room := X.room, hears := X.hears, method := X.method, code := X.code, here := Z.here, tail := Z.tail, warmed := State.WarmedH.trans hW0 Z.warmed, limits := Z.limits.trans (Y.limits.symm.trans X.limits), bytes := Z.bytes.trans (Y.bytes.symm.trans X.bytes), same := ?_ }
  obtain ⟨e1, e2⟩ := Z.same
  rw [State.setFrames_setFrames] at e1
  have h2 : (T.setVm s.vm).sameButNew (S.setVm s.vm) [] k n := ⟨e1, e2⟩
  have h3 := X.same.trans h2
  rw [List.append_nil] at h3
  exact h3
/-- from the machine's note that E is thrown here with this text -/
def vx_Note (p : Program) (l : Launch) (e : Env) (R : Room) (s : State) (m : MethodId) (args : Array Value) (below : List Frame) (meth : Method) (c : Code) (H : Heap) (locs : List Loc) (cells slots : Nat) (Q : State → Prop) (g : JFrame) (E text : String) : Prop :=
  ∀ T : State, T.heap = H → Stand p l e R s m args below meth c T locs cells slots → ∃ t, Steps p.tables e below ((T.setTop g).pushFrame (.throwNew E (some text) none)) t ∧ Q t
theorem vx_vm {pc : Nat} {ls : Array Slot} {rest : List Value} {Q : State → Prop} (hexec : p.tables.exec = Jvm.exec) (hl : l.stackTraces = false) {cls text : String} {names : List String} {nb : Nat} {A : Nat → Prop}
    (hcls : Bundle.fit cls = true) (hnames : ∀ n ∈ names, Bundle.fit n = true) (hsoe : (cls == "java/lang/StackOverflowError") = false) (hoom : (cls == "java/lang/OutOfMemoryError") = false)
    (hat : ∀ w ∈ vx_atM cls names, w.before args s = true) (hgood : ∀ w ∈ vx_atM cls names, vx_ot w = true)
    (hU : vx_Zq Bundle.tN "UNASSIGNED_STACK" Bundle.steD A s s.heap) (hN : vx_Zq Bundle.tN "SUPPRESSED_SENTINEL" Bundle.listD A s s.heap) (hS : va_S A s.heap H locs) (hsize : ls.size = c.maxLocals)
    (htext : (text == notModelled) = false) (hnb : (stringBytes (stringToUtf16 text)).size ≤ nb) (hnb1 : nb ≤ 1000)
    (hRframes : names.length + 4 < R.frames) (hRlocals : (rest.map fun v => v.category).sum + 10240 ≤ R.locals) (hshort : 13 * names.length + 55 ≤ 10240) (hRcells : cells + 3 ≤ R.cells) (hRslots : slots + (nb + 10) ≤ R.slots) (hlocks : meth.locks = false)
    (k : ∀ (H1 : Heap) (q9 : Addr) (ce : Cell), H.size ≤ H1.size → (∀ q : Nat, q < H.size → H1[q]? = H[q]?) → va_S A s.heap H1 locs → H1[q9]? = some ce → ce.vm = .none → s.vm.findClass cls = some ce.cls → vx_W p l e R s m args below meth c H1 locs (cells + 3) (slots + (nb + 10)) Q (F0 m pc ls rest) q9) :
    vx_Note p l e R s m args below meth c H locs cells slots Q (F0 m pc ls rest) cls text := by
  intro T hT X
  have htr : e.platform.stackTraces = false := (show e.platform.stackTraces = l.stackTraces by rw [X.admits.platform]).trans hl
  have Y := vx_rebase X (R' := { frames := R.frames, locals := R.locals, cells := 3, slots := nb + 10 }) (Nat.le_refl _) (Nat.le_refl _) hRcells hRslots
  have hhp : ((T.setVm s.vm).setFrames (.invoking m args :: below)).heap = H := hT
  have hW0 : s.WarmedH ((T.setVm s.vm).setFrames (.invoking m args :: below)).vm := State.WarmedH.refl s
  have hat' : ∀ w ∈ vx_atM cls names, w.before args ((T.setVm s.vm).setFrames (.invoking m args :: below)) = true := fun w hw => vx_ot_at hW0 rfl (hgood w hw) (hat w hw)
  have hU' : vx_Zq Bundle.tN "UNASSIGNED_STACK" Bundle.steD A ((T.setVm s.vm).setFrames (.invoking m args :: below)) ((T.setVm s.vm).setFrames (.invoking m args :: below)).heap := by rw [hhp]; exact vx_Zq.moved hW0.alike (hU.kept hS.2.1)
  have hN' : vx_Zq Bundle.tN "SUPPRESSED_SENTINEL" Bundle.listD A ((T.setVm s.vm).setFrames (.invoking m args :: below)) ((T.setVm s.vm).setFrames (.invoking m args :: below)).heap := by rw [hhp]; exact vx_Zq.moved hW0.alike (hN.kept hS.2.1)
  obtain ⟨S, q, ce, st, Z, hce, hcl', hv⟩ := vx_vmAt Y hexec htr (cls := cls) (names := names) (text := text) hcls hnames hsoe hoom (vx_own hat' (vx_isRefq hU'.1) (vx_isRefq hN'.1) hU'.2.word hN'.2.word) (fun x hx => nomatch hx) htext
    (by rw [Launch.admits_arrayLengthLimit X.admits]; omega) (by rw [Launch.admits_maxHeapBytes X.admits]; simp only [componentBytes]; omega)
    (g := F0 m pc ls rest) rfl hsize hRframes (by show 2 * 0 + (rest.map fun v => v.category).sum + 10240 ≤ R.locals; omega) hshort (by show 0 + 3 ≤ 3; omega) (by show 0 + (_ + 4 + 6) ≤ nb + 10; omega) hlocks
  obtain ⟨f1, f2⟩ := vx_frame Z.same
  have f1' : H.size ≤ S.heap.size := by rw [← hT]; exact f1
  have f2' : ∀ q : Nat, q < H.size → S.heap[q]? = H[q]? := fun q hq => by
    rw [← hT]
    exact f2 q (by rw [← hT] at hq; exact hq) (fun z hz => nomatch hz)
  have X5 := vx_back9 X Y Z
  have X6 : Stand p l e R s m args below meth c S locs (cells + 3) (slots + (nb + 10)) := { X5 with same := X5.same.mono (by omega) (by omega) }
  obtain ⟨t, a1, b1⟩ := k S.heap q ce f1' f2' ⟨Nat.le_trans hS.1 f1', fun q h1 h2 => (f2' q (Nat.lt_of_lt_of_le h1 hS.1)).trans (hS.2.1 q h1 h2), hS.2.2⟩ hce hv hcl' S rfl X6
  exact ⟨t, st t a1, b1⟩
/-- from the machine's note that NullPointerException is thrown here -/
def vx_NoteN (p : Program) (l : Launch) (e : Env) (R : Room) (s : State) (m : MethodId) (args : Array Value) (below : List Frame) (meth : Method) (c : Code) (H : Heap) (locs : List Loc) (cells slots : Nat) (Q : State → Prop) (g : JFrame) : Prop :=
  ∀ T : State, T.heap = H → Stand p l e R s m args below meth c T locs cells slots → ∃ t, Steps p.tables e below ((T.setTop g).pushFrame (.throwNew "java/lang/NullPointerException" none none)) t ∧ Q t
theorem vx_npe {pc : Nat} {ls : Array Slot} {rest : List Value} {Q : State → Prop} (hexec : p.tables.exec = Jvm.exec) (hl : l.stackTraces = false) {nb : Nat} {A : Nat → Prop}
    (hat : ∀ w ∈ vx_atN nb, w.before args s = true) (hgood : ∀ w ∈ vx_atN nb, vx_ot w = true)
    (hU : vx_Zq Bundle.tN "UNASSIGNED_STACK" Bundle.steD A s s.heap) (hN : vx_Zq Bundle.tN "SUPPRESSED_SENTINEL" Bundle.listD A s s.heap) (hS : va_S A s.heap H locs) (hsize : ls.size = c.maxLocals)
    (hRframes : 7 < R.frames) (hRlocals : (rest.map fun v => v.category).sum + 10240 ≤ R.locals) (hRcells : cells + 1 ≤ R.cells) (hRslots : slots + nb ≤ R.slots) (hlocks : meth.locks = false)
    (k : ∀ (H1 : Heap) (q9 : Addr) (ce : Cell), H.size ≤ H1.size → (∀ q : Nat, q < H.size → H1[q]? = H[q]?) → va_S A s.heap H1 locs → H1[q9]? = some ce → ce.vm = .none → s.vm.findClass "java/lang/NullPointerException" = some ce.cls → vx_W p l e R s m args below meth c H1 locs (cells + 1) (slots + nb) Q (F0 m pc ls rest) q9) :
    vx_NoteN p l e R s m args below meth c H locs cells slots Q (F0 m pc ls rest) := by
  intro T hT X
  have htr : e.platform.stackTraces = false := (show e.platform.stackTraces = l.stackTraces by rw [X.admits.platform]).trans hl
  have Y := vx_rebase X (R' := { frames := R.frames, locals := R.locals, cells := 1, slots := nb }) (Nat.le_refl _) (Nat.le_refl _) hRcells hRslots
  have hhp : ((T.setVm s.vm).setFrames (.invoking m args :: below)).heap = H := hT
  have hW0 : s.WarmedH ((T.setVm s.vm).setFrames (.invoking m args :: below)).vm := State.WarmedH.refl s
  have hat' : ∀ w ∈ vx_atN nb, w.before args ((T.setVm s.vm).setFrames (.invoking m args :: below)) = true := fun w hw => vx_ot_at hW0 rfl (hgood w hw) (hat w hw)
  have hU' : vx_Zq Bundle.tN "UNASSIGNED_STACK" Bundle.steD A ((T.setVm s.vm).setFrames (.invoking m args :: below)) ((T.setVm s.vm).setFrames (.invoking m args :: below)).heap := by rw [hhp]; exact vx_Zq.moved hW0.alike (hU.kept hS.2.1)
  have hN' : vx_Zq Bundle.tN "SUPPRESSED_SENTINEL" Bundle.listD A ((T.setVm s.vm).setFrames (.invoking m args :: below)) ((T.setVm s.vm).setFrames (.invoking m args :: below)).heap := by rw [hhp]; exact vx_Zq.moved hW0.alike (hN.kept hS.2.1)
  obtain ⟨S, q, ce, st, Z, hce, hcl', hv⟩ := vx_npeAt Y hexec htr (n := nb) (vx_own hat' (vx_isRefq hU'.1) (vx_isRefq hN'.1) hU'.2.word hN'.2.word) (fun x hx => nomatch hx)
    (g := F0 m pc ls rest) rfl hsize hRframes (by show 2 * 0 + (rest.map fun v => v.category).sum + 10240 ≤ R.locals; omega) (by show 0 + 1 ≤ 1; omega) (by show 0 + nb ≤ nb; omega) hlocks
  obtain ⟨f1, f2⟩ := vx_frame Z.same
  have f1' : H.size ≤ S.heap.size := by rw [← hT]; exact f1
  have f2' : ∀ q : Nat, q < H.size → S.heap[q]? = H[q]? := fun q hq => by
    rw [← hT]
    exact f2 q (by rw [← hT] at hq; exact hq) (fun z hz => nomatch hz)
  have X5 := vx_back9 X Y Z
  have X6 : Stand p l e R s m args below meth c S locs (cells + 1) (slots + nb) := { X5 with same := X5.same.mono (by omega) (by omega) }
  obtain ⟨t, a1, b1⟩ := k S.heap q ce f1' f2' ⟨Nat.le_trans hS.1 f1', fun q h1 h2 => (f2' q (Nat.lt_of_lt_of_le h1 hS.1)).trans (hS.2.1 q h1 h2), hS.2.2⟩ hce hv hcl' S rfl X6
  exact ⟨t, st t a1, b1⟩
variable {Q : State → Prop} {cc : ByteArray} {pc : Nat} {ls : Array Slot} {rest : List Value}
theorem vx_idivZ (hexec : p.tables.exec = Jvm.exec) (hb : c.code = cc) {a b : Int32} (h0 : b = 0) (d : decode cc pc = .ok (.idiv, 1)) (k : vx_Note p l e R s m args below meth c H locs cells slots Q (F0 m pc ls rest) "java/lang/ArithmeticException" "/ by zero") :
    W p l e R s m args below meth c H locs cells slots Q (F0 m pc ls (.int b :: .int a :: rest)) := by
  intro T hT X
  obtain ⟨t, st, q⟩ := k T hT X
  exact ⟨t, X.idivZero hexec (g := F0 m pc ls (.int b :: .int a :: rest)) rfl (a := a) (rest := rest) (by rw [h0]) (by rw [hb]; exact d) t st, q⟩
theorem vx_iremZ (hexec : p.tables.exec = Jvm.exec) (hb : c.code = cc) {a b : Int32} (h0 : b = 0) (d : decode cc pc = .ok (.irem, 1)) (k : vx_Note p l e R s m args below meth c H locs cells slots Q (F0 m pc ls rest) "java/lang/ArithmeticException" "/ by zero") :
    W p l e R s m args below meth c H locs cells slots Q (F0 m pc ls (.int b :: .int a :: rest)) := by
  intro T hT X
  obtain ⟨t, st, q⟩ := k T hT X
  exact ⟨t, X.iremZero hexec (g := F0 m pc ls (.int b :: .int a :: rest)) rfl (a := a) (rest := rest) (by rw [h0]) (by rw [hb]; exact d) t st, q⟩
theorem vx_ldivZ (hexec : p.tables.exec = Jvm.exec) (hb : c.code = cc) {a b : Int64} (h0 : b = 0) (d : decode cc pc = .ok (.ldiv, 1)) (k : vx_Note p l e R s m args below meth c H locs cells slots Q (F0 m pc ls rest) "java/lang/ArithmeticException" "/ by zero") :
    W p l e R s m args below meth c H locs cells slots Q (F0 m pc ls (.long b :: .long a :: rest)) := by
  intro T hT X
  obtain ⟨t, st, q⟩ := k T hT X
  exact ⟨t, X.ldivZero hexec (g := F0 m pc ls (.long b :: .long a :: rest)) rfl (a := a) (rest := rest) (by rw [h0]) (by rw [hb]; exact d) t st, q⟩
theorem vx_lremZ (hexec : p.tables.exec = Jvm.exec) (hb : c.code = cc) {a b : Int64} (h0 : b = 0) (d : decode cc pc = .ok (.lrem, 1)) (k : vx_Note p l e R s m args below meth c H locs cells slots Q (F0 m pc ls rest) "java/lang/ArithmeticException" "/ by zero") :
    W p l e R s m args below meth c H locs cells slots Q (F0 m pc ls (.long b :: .long a :: rest)) := by
  intro T hT X
  obtain ⟨t, st, q⟩ := k T hT X
  exact ⟨t, X.lremZero hexec (g := F0 m pc ls (.long b :: .long a :: rest)) rfl (a := a) (rest := rest) (by rw [h0]) (by rw [hb]; exact d) t st, q⟩
theorem vx_ialdZ {D : va_G} {cl : List vw_C} {ws : va_W} {tys : List (ClassId × FieldType)} {a : Nat} (hexec : p.tables.exec = Jvm.exec) (hb : c.code = cc) (hK : va_K D cl tys s) (hP : va_P D cl ws H) (q0 t0 : Nat) {cA : ClassId} {n : Nat} {f : Nat → Int32} (ha : ws[q0]? = some (a, .inl (cA, n, .inl f))) (ht : tys[t0]? = some (cA, .int)) {i : Int32} (hout : ¬ vp_in i n) (hdg : decode cc pc = .ok (.iaload, 1))
    (k : ∀ tx : String, tx = (toString "Index " ++ toString i ++ toString " out of bounds for length " ++ toString n : String) → vx_Note p l e R s m args below meth c H locs cells slots Q (F0 m pc ls rest) "java/lang/ArrayIndexOutOfBoundsException" tx) : W p l e R s m args below meth c H locs cells slots Q (F0 m pc ls (.int i :: .ref a :: rest)) := by
  intro T hT X
  obtain ⟨t, st, q⟩ := k _ rfl T hT X
  refine ⟨t, ?_, q⟩
  have h1 := X.ialoadOut hexec (by rw [hT]; exact hP q0 _ ha) ((hK.2 t0 _ ht).1 n (fun j => .int (f j))) (j := i) (by show (i < 0 ∨ (arrV _ _ _).slots.size ≤ _); rw [arrV_size]; exact Classical.byContradiction hout) (g := F0 m pc ls (.int i :: .ref a :: rest)) rfl (rest := rest) rfl (by rw [hb]; exact hdg) t
  simp only [arrV_size] at h1
  exact h1 st
theorem vx_iastZ {D : va_G} {cl : List vw_C} {ws : va_W} {tys : List (ClassId × FieldType)} {a : Nat} (hexec : p.tables.exec = Jvm.exec) (hb : c.code = cc) (hK : va_K D cl tys s) (hP : va_P D cl ws H) (q0 t0 : Nat) {cA : ClassId} {n : Nat} {f : Nat → Int32} (ha : ws[q0]? = some (a, .inl (cA, n, .inl f))) (ht : tys[t0]? = some (cA, .int)) {i : Int32} {x : Int32} (hout : ¬ vp_in i n) (hdg : decode cc pc = .ok (.iastore, 1))
    (k : ∀ tx : String, tx = (toString "Index " ++ toString i ++ toString " out of bounds for length " ++ toString n : String) → vx_Note p l e R s m args below meth c H locs cells slots Q (F0 m pc ls rest) "java/lang/ArrayIndexOutOfBoundsException" tx) : W p l e R s m args below meth c H locs cells slots Q (F0 m pc ls (.int x :: .int i :: .ref a :: rest)) := by
  intro T hT X
  obtain ⟨t, st, q⟩ := k _ rfl T hT X
  refine ⟨t, ?_, q⟩
  have h1 := X.iastoreOut hexec (by rw [hT]; exact hP q0 _ ha) ((hK.2 t0 _ ht).1 n (fun j => .int (f j))) (j := i) (by show (i < 0 ∨ (arrV _ _ _).slots.size ≤ _); rw [arrV_size]; exact Classical.byContradiction hout) (g := F0 m pc ls (.int x :: .int i :: .ref a :: rest)) rfl (rest := rest) rfl (by rw [hb]; exact hdg) t
  simp only [arrV_size] at h1
  exact h1 st
theorem vx_baldZ {D : va_G} {cl : List vw_C} {ws : va_W} {tys : List (ClassId × FieldType)} {a : Nat} (hexec : p.tables.exec = Jvm.exec) (hb : c.code = cc) (hK : va_K D cl tys s) (hP : va_P D cl ws H) (q0 t0 : Nat) {cA : ClassId} {n : Nat} {f : Nat → Int32} (ha : ws[q0]? = some (a, .inl (cA, n, .inl f))) (ht : tys[t0]? = some (cA, .byte)) {i : Int32} (hout : ¬ vp_in i n) (hdg : decode cc pc = .ok (.baload, 1))
    (k : ∀ tx : String, tx = (toString "Index " ++ toString i ++ toString " out of bounds for length " ++ toString n : String) → vx_Note p l e R s m args below meth c H locs cells slots Q (F0 m pc ls rest) "java/lang/ArrayIndexOutOfBoundsException" tx) : W p l e R s m args below meth c H locs cells slots Q (F0 m pc ls (.int i :: .ref a :: rest)) := by
  intro T hT X
  obtain ⟨t, st, q⟩ := k _ rfl T hT X
  refine ⟨t, ?_, q⟩
  have h1 := X.baloadOut hexec (by rw [hT]; exact hP q0 _ ha) ((hK.2 t0 _ ht).1 n (fun j => .int (f j))) (j := i) (by show (i < 0 ∨ (arrV _ _ _).slots.size ≤ _); rw [arrV_size]; exact Classical.byContradiction hout) (g := F0 m pc ls (.int i :: .ref a :: rest)) rfl (rest := rest) rfl (by rw [hb]; exact hdg) t
  simp only [arrV_size] at h1
  exact h1 st
theorem vx_bastZ {D : va_G} {cl : List vw_C} {ws : va_W} {tys : List (ClassId × FieldType)} {a : Nat} (hexec : p.tables.exec = Jvm.exec) (hb : c.code = cc) (hK : va_K D cl tys s) (hP : va_P D cl ws H) (q0 t0 : Nat) {cA : ClassId} {n : Nat} {f : Nat → Int32} (ha : ws[q0]? = some (a, .inl (cA, n, .inl f))) (ht : tys[t0]? = some (cA, .byte)) {i : Int32} {x : Int32} (hout : ¬ vp_in i n) (hdg : decode cc pc = .ok (.bastore, 1))
    (k : ∀ tx : String, tx = (toString "Index " ++ toString i ++ toString " out of bounds for length " ++ toString n : String) → vx_Note p l e R s m args below meth c H locs cells slots Q (F0 m pc ls rest) "java/lang/ArrayIndexOutOfBoundsException" tx) : W p l e R s m args below meth c H locs cells slots Q (F0 m pc ls (.int x :: .int i :: .ref a :: rest)) := by
  intro T hT X
  obtain ⟨t, st, q⟩ := k _ rfl T hT X
  refine ⟨t, ?_, q⟩
  have h1 := X.bastoreOut hexec (by rw [hT]; exact hP q0 _ ha) ((hK.2 t0 _ ht).1 n (fun j => .int (f j))) (j := i) (by show (i < 0 ∨ (arrV _ _ _).slots.size ≤ _); rw [arrV_size]; exact Classical.byContradiction hout) (g := F0 m pc ls (.int x :: .int i :: .ref a :: rest)) rfl (rest := rest) rfl (by rw [hb]; exact hdg) t
  simp only [arrV_size] at h1
  exact h1 st
theorem vx_zaldZ {D : va_G} {cl : List vw_C} {ws : va_W} {tys : List (ClassId × FieldType)} {a : Nat} (hexec : p.tables.exec = Jvm.exec) (hb : c.code = cc) (hK : va_K D cl tys s) (hP : va_P D cl ws H) (q0 t0 : Nat) {cA : ClassId} {n : Nat} {f : Nat → Int32} (ha : ws[q0]? = some (a, .inl (cA, n, .inl f))) (ht : tys[t0]? = some (cA, .boolean)) {i : Int32} (hout : ¬ vp_in i n) (hdg : decode cc pc = .ok (.baload, 1))
    (k : ∀ tx : String, tx = (toString "Index " ++ toString i ++ toString " out of bounds for length " ++ toString n : String) → vx_Note p l e R s m args below meth c H locs cells slots Q (F0 m pc ls rest) "java/lang/ArrayIndexOutOfBoundsException" tx) : W p l e R s m args below meth c H locs cells slots Q (F0 m pc ls (.int i :: .ref a :: rest)) := by
  intro T hT X
  obtain ⟨t, st, q⟩ := k _ rfl T hT X
  refine ⟨t, ?_, q⟩
  have h1 := X.baloadOut hexec (by rw [hT]; exact hP q0 _ ha) ((hK.2 t0 _ ht).1 n (fun j => .int (f j))) (j := i) (by show (i < 0 ∨ (arrV _ _ _).slots.size ≤ _); rw [arrV_size]; exact Classical.byContradiction hout) (g := F0 m pc ls (.int i :: .ref a :: rest)) rfl (rest := rest) rfl (by rw [hb]; exact hdg) t
  simp only [arrV_size] at h1
  exact h1 st
theorem vx_zastZ {D : va_G} {cl : List vw_C} {ws : va_W} {tys : List (ClassId × FieldType)} {a : Nat} (hexec : p.tables.exec = Jvm.exec) (hb : c.code = cc) (hK : va_K D cl tys s) (hP : va_P D cl ws H) (q0 t0 : Nat) {cA : ClassId} {n : Nat} {f : Nat → Int32} (ha : ws[q0]? = some (a, .inl (cA, n, .inl f))) (ht : tys[t0]? = some (cA, .boolean)) {i : Int32} {x : Int32} (hout : ¬ vp_in i n) (hdg : decode cc pc = .ok (.bastore, 1))
    (k : ∀ tx : String, tx = (toString "Index " ++ toString i ++ toString " out of bounds for length " ++ toString n : String) → vx_Note p l e R s m args below meth c H locs cells slots Q (F0 m pc ls rest) "java/lang/ArrayIndexOutOfBoundsException" tx) : W p l e R s m args below meth c H locs cells slots Q (F0 m pc ls (.int x :: .int i :: .ref a :: rest)) := by
  intro T hT X
  obtain ⟨t, st, q⟩ := k _ rfl T hT X
  refine ⟨t, ?_, q⟩
  have h1 := X.bastoreOut hexec (by rw [hT]; exact hP q0 _ ha) ((hK.2 t0 _ ht).1 n (fun j => .int (f j))) (j := i) (by show (i < 0 ∨ (arrV _ _ _).slots.size ≤ _); rw [arrV_size]; exact Classical.byContradiction hout) (g := F0 m pc ls (.int x :: .int i :: .ref a :: rest)) rfl (rest := rest) rfl (by rw [hb]; exact hdg) t
  simp only [arrV_size] at h1
  exact h1 st
theorem vx_caldZ {D : va_G} {cl : List vw_C} {ws : va_W} {tys : List (ClassId × FieldType)} {a : Nat} (hexec : p.tables.exec = Jvm.exec) (hb : c.code = cc) (hK : va_K D cl tys s) (hP : va_P D cl ws H) (q0 t0 : Nat) {cA : ClassId} {n : Nat} {f : Nat → Int32} (ha : ws[q0]? = some (a, .inl (cA, n, .inl f))) (ht : tys[t0]? = some (cA, .char)) {i : Int32} (hout : ¬ vp_in i n) (hdg : decode cc pc = .ok (.caload, 1))
    (k : ∀ tx : String, tx = (toString "Index " ++ toString i ++ toString " out of bounds for length " ++ toString n : String) → vx_Note p l e R s m args below meth c H locs cells slots Q (F0 m pc ls rest) "java/lang/ArrayIndexOutOfBoundsException" tx) : W p l e R s m args below meth c H locs cells slots Q (F0 m pc ls (.int i :: .ref a :: rest)) := by
  intro T hT X
  obtain ⟨t, st, q⟩ := k _ rfl T hT X
  refine ⟨t, ?_, q⟩
  have h1 := X.caloadOut hexec (by rw [hT]; exact hP q0 _ ha) ((hK.2 t0 _ ht).1 n (fun j => .int (f j))) (j := i) (by show (i < 0 ∨ (arrV _ _ _).slots.size ≤ _); rw [arrV_size]; exact Classical.byContradiction hout) (g := F0 m pc ls (.int i :: .ref a :: rest)) rfl (rest := rest) rfl (by rw [hb]; exact hdg) t
  simp only [arrV_size] at h1
  exact h1 st
theorem vx_castZ {D : va_G} {cl : List vw_C} {ws : va_W} {tys : List (ClassId × FieldType)} {a : Nat} (hexec : p.tables.exec = Jvm.exec) (hb : c.code = cc) (hK : va_K D cl tys s) (hP : va_P D cl ws H) (q0 t0 : Nat) {cA : ClassId} {n : Nat} {f : Nat → Int32} (ha : ws[q0]? = some (a, .inl (cA, n, .inl f))) (ht : tys[t0]? = some (cA, .char)) {i : Int32} {x : Int32} (hout : ¬ vp_in i n) (hdg : decode cc pc = .ok (.castore, 1))
    (k : ∀ tx : String, tx = (toString "Index " ++ toString i ++ toString " out of bounds for length " ++ toString n : String) → vx_Note p l e R s m args below meth c H locs cells slots Q (F0 m pc ls rest) "java/lang/ArrayIndexOutOfBoundsException" tx) : W p l e R s m args below meth c H locs cells slots Q (F0 m pc ls (.int x :: .int i :: .ref a :: rest)) := by
  intro T hT X
  obtain ⟨t, st, q⟩ := k _ rfl T hT X
  refine ⟨t, ?_, q⟩
  have h1 := X.castoreOut hexec (by rw [hT]; exact hP q0 _ ha) ((hK.2 t0 _ ht).1 n (fun j => .int (f j))) (j := i) (by show (i < 0 ∨ (arrV _ _ _).slots.size ≤ _); rw [arrV_size]; exact Classical.byContradiction hout) (g := F0 m pc ls (.int x :: .int i :: .ref a :: rest)) rfl (rest := rest) rfl (by rw [hb]; exact hdg) t
  simp only [arrV_size] at h1
  exact h1 st
theorem vx_saldZ {D : va_G} {cl : List vw_C} {ws : va_W} {tys : List (ClassId × FieldType)} {a : Nat} (hexec : p.tables.exec = Jvm.exec) (hb : c.code = cc) (hK : va_K D cl tys s) (hP : va_P D cl ws H) (q0 t0 : Nat) {cA : ClassId} {n : Nat} {f : Nat → Int32} (ha : ws[q0]? = some (a, .inl (cA, n, .inl f))) (ht : tys[t0]? = some (cA, .short)) {i : Int32} (hout : ¬ vp_in i n) (hdg : decode cc pc = .ok (.saload, 1))
    (k : ∀ tx : String, tx = (toString "Index " ++ toString i ++ toString " out of bounds for length " ++ toString n : String) → vx_Note p l e R s m args below meth c H locs cells slots Q (F0 m pc ls rest) "java/lang/ArrayIndexOutOfBoundsException" tx) : W p l e R s m args below meth c H locs cells slots Q (F0 m pc ls (.int i :: .ref a :: rest)) := by
  intro T hT X
  obtain ⟨t, st, q⟩ := k _ rfl T hT X
  refine ⟨t, ?_, q⟩
  have h1 := X.saloadOut hexec (by rw [hT]; exact hP q0 _ ha) ((hK.2 t0 _ ht).1 n (fun j => .int (f j))) (j := i) (by show (i < 0 ∨ (arrV _ _ _).slots.size ≤ _); rw [arrV_size]; exact Classical.byContradiction hout) (g := F0 m pc ls (.int i :: .ref a :: rest)) rfl (rest := rest) rfl (by rw [hb]; exact hdg) t
  simp only [arrV_size] at h1
  exact h1 st
theorem vx_sastZ {D : va_G} {cl : List vw_C} {ws : va_W} {tys : List (ClassId × FieldType)} {a : Nat} (hexec : p.tables.exec = Jvm.exec) (hb : c.code = cc) (hK : va_K D cl tys s) (hP : va_P D cl ws H) (q0 t0 : Nat) {cA : ClassId} {n : Nat} {f : Nat → Int32} (ha : ws[q0]? = some (a, .inl (cA, n, .inl f))) (ht : tys[t0]? = some (cA, .short)) {i : Int32} {x : Int32} (hout : ¬ vp_in i n) (hdg : decode cc pc = .ok (.sastore, 1))
    (k : ∀ tx : String, tx = (toString "Index " ++ toString i ++ toString " out of bounds for length " ++ toString n : String) → vx_Note p l e R s m args below meth c H locs cells slots Q (F0 m pc ls rest) "java/lang/ArrayIndexOutOfBoundsException" tx) : W p l e R s m args below meth c H locs cells slots Q (F0 m pc ls (.int x :: .int i :: .ref a :: rest)) := by
  intro T hT X
  obtain ⟨t, st, q⟩ := k _ rfl T hT X
  refine ⟨t, ?_, q⟩
  have h1 := X.sastoreOut hexec (by rw [hT]; exact hP q0 _ ha) ((hK.2 t0 _ ht).1 n (fun j => .int (f j))) (j := i) (by show (i < 0 ∨ (arrV _ _ _).slots.size ≤ _); rw [arrV_size]; exact Classical.byContradiction hout) (g := F0 m pc ls (.int x :: .int i :: .ref a :: rest)) rfl (rest := rest) rfl (by rw [hb]; exact hdg) t
  simp only [arrV_size] at h1
  exact h1 st
theorem vx_laldZ {D : va_G} {cl : List vw_C} {ws : va_W} {tys : List (ClassId × FieldType)} {a : Nat} (hexec : p.tables.exec = Jvm.exec) (hb : c.code = cc) (hK : va_K D cl tys s) (hP : va_P D cl ws H) (q0 t0 : Nat) {cA : ClassId} {n : Nat} {f : Nat → Int64} (ha : ws[q0]? = some (a, .inl (cA, n, .inr (.inl f)))) (ht : tys[t0]? = some (cA, .long)) {i : Int32} (hout : ¬ vp_in i n) (hdg : decode cc pc = .ok (.laload, 1))
    (k : ∀ tx : String, tx = (toString "Index " ++ toString i ++ toString " out of bounds for length " ++ toString n : String) → vx_Note p l e R s m args below meth c H locs cells slots Q (F0 m pc ls rest) "java/lang/ArrayIndexOutOfBoundsException" tx) : W p l e R s m args below meth c H locs cells slots Q (F0 m pc ls (.int i :: .ref a :: rest)) := by
  intro T hT X
  obtain ⟨t, st, q⟩ := k _ rfl T hT X
  refine ⟨t, ?_, q⟩
  have h1 := X.laloadOut hexec (by rw [hT]; exact hP q0 _ ha) ((hK.2 t0 _ ht).1 n (fun j => .long (f j))) (j := i) (by show (i < 0 ∨ (arrV _ _ _).slots.size ≤ _); rw [arrV_size]; exact Classical.byContradiction hout) (g := F0 m pc ls (.int i :: .ref a :: rest)) rfl (rest := rest) rfl (by rw [hb]; exact hdg) t
  simp only [arrV_size] at h1
  exact h1 st
theorem vx_lastZ {D : va_G} {cl : List vw_C} {ws : va_W} {tys : List (ClassId × FieldType)} {a : Nat} (hexec : p.tables.exec = Jvm.exec) (hb : c.code = cc) (hK : va_K D cl tys s) (hP : va_P D cl ws H) (q0 t0 : Nat) {cA : ClassId} {n : Nat} {f : Nat → Int64} (ha : ws[q0]? = some (a, .inl (cA, n, .inr (.inl f)))) (ht : tys[t0]? = some (cA, .long)) {i : Int32} {x : Int64} (hout : ¬ vp_in i n) (hdg : decode cc pc = .ok (.lastore, 1))
    (k : ∀ tx : String, tx = (toString "Index " ++ toString i ++ toString " out of bounds for length " ++ toString n : String) → vx_Note p l e R s m args below meth c H locs cells slots Q (F0 m pc ls rest) "java/lang/ArrayIndexOutOfBoundsException" tx) : W p l e R s m args below meth c H locs cells slots Q (F0 m pc ls (.long x :: .int i :: .ref a :: rest)) := by
  intro T hT X
  obtain ⟨t, st, q⟩ := k _ rfl T hT X
  refine ⟨t, ?_, q⟩
  have h1 := X.lastoreOut hexec (by rw [hT]; exact hP q0 _ ha) ((hK.2 t0 _ ht).1 n (fun j => .long (f j))) (j := i) (by show (i < 0 ∨ (arrV _ _ _).slots.size ≤ _); rw [arrV_size]; exact Classical.byContradiction hout) (g := F0 m pc ls (.long x :: .int i :: .ref a :: rest)) rfl (rest := rest) rfl (by rw [hb]; exact hdg) t
  simp only [arrV_size] at h1
  exact h1 st
theorem vx_faldZ {D : va_G} {cl : List vw_C} {ws : va_W} {tys : List (ClassId × FieldType)} {a : Nat} (hexec : p.tables.exec = Jvm.exec) (hb : c.code = cc) (hK : va_K D cl tys s) (hP : va_P D cl ws H) (q0 t0 : Nat) {cA : ClassId} {n : Nat} {f : Nat → UInt32} (ha : ws[q0]? = some (a, .inl (cA, n, .inr (.inr (.inl f))))) (ht : tys[t0]? = some (cA, .float)) {i : Int32} (hout : ¬ vp_in i n) (hdg : decode cc pc = .ok (.faload, 1))
    (k : ∀ tx : String, tx = (toString "Index " ++ toString i ++ toString " out of bounds for length " ++ toString n : String) → vx_Note p l e R s m args below meth c H locs cells slots Q (F0 m pc ls rest) "java/lang/ArrayIndexOutOfBoundsException" tx) : W p l e R s m args below meth c H locs cells slots Q (F0 m pc ls (.int i :: .ref a :: rest)) := by
  intro T hT X
  obtain ⟨t, st, q⟩ := k _ rfl T hT X
  refine ⟨t, ?_, q⟩
  have h1 := X.faloadOut hexec (by rw [hT]; exact hP q0 _ ha) ((hK.2 t0 _ ht).1 n (fun j => .float (f j))) (j := i) (by show (i < 0 ∨ (arrV _ _ _).slots.size ≤ _); rw [arrV_size]; exact Classical.byContradiction hout) (g := F0 m pc ls (.int i :: .ref a :: rest)) rfl (rest := rest) rfl (by rw [hb]; exact hdg) t
  simp only [arrV_size] at h1
  exact h1 st
theorem vx_fastZ {D : va_G} {cl : List vw_C} {ws : va_W} {tys : List (ClassId × FieldType)} {a : Nat} (hexec : p.tables.exec = Jvm.exec) (hb : c.code = cc) (hK : va_K D cl tys s) (hP : va_P D cl ws H) (q0 t0 : Nat) {cA : ClassId} {n : Nat} {f : Nat → UInt32} (ha : ws[q0]? = some (a, .inl (cA, n, .inr (.inr (.inl f))))) (ht : tys[t0]? = some (cA, .float)) {i : Int32} {x : UInt32} (hout : ¬ vp_in i n) (hdg : decode cc pc = .ok (.fastore, 1))
    (k : ∀ tx : String, tx = (toString "Index " ++ toString i ++ toString " out of bounds for length " ++ toString n : String) → vx_Note p l e R s m args below meth c H locs cells slots Q (F0 m pc ls rest) "java/lang/ArrayIndexOutOfBoundsException" tx) : W p l e R s m args below meth c H locs cells slots Q (F0 m pc ls (.float x :: .int i :: .ref a :: rest)) := by
  intro T hT X
  obtain ⟨t, st, q⟩ := k _ rfl T hT X
  refine ⟨t, ?_, q⟩
  have h1 := X.fastoreOut hexec (by rw [hT]; exact hP q0 _ ha) ((hK.2 t0 _ ht).1 n (fun j => .float (f j))) (j := i) (by show (i < 0 ∨ (arrV _ _ _).slots.size ≤ _); rw [arrV_size]; exact Classical.byContradiction hout) (g := F0 m pc ls (.float x :: .int i :: .ref a :: rest)) rfl (rest := rest) rfl (by rw [hb]; exact hdg) t
  simp only [arrV_size] at h1
  exact h1 st
theorem vx_daldZ {D : va_G} {cl : List vw_C} {ws : va_W} {tys : List (ClassId × FieldType)} {a : Nat} (hexec : p.tables.exec = Jvm.exec) (hb : c.code = cc) (hK : va_K D cl tys s) (hP : va_P D cl ws H) (q0 t0 : Nat) {cA : ClassId} {n : Nat} {f : Nat → UInt64} (ha : ws[q0]? = some (a, .inl (cA, n, .inr (.inr (.inr (.inl f)))))) (ht : tys[t0]? = some (cA, .double)) {i : Int32} (hout : ¬ vp_in i n) (hdg : decode cc pc = .ok (.daload, 1))
    (k : ∀ tx : String, tx = (toString "Index " ++ toString i ++ toString " out of bounds for length " ++ toString n : String) → vx_Note p l e R s m args below meth c H locs cells slots Q (F0 m pc ls rest) "java/lang/ArrayIndexOutOfBoundsException" tx) : W p l e R s m args below meth c H locs cells slots Q (F0 m pc ls (.int i :: .ref a :: rest)) := by
  intro T hT X
  obtain ⟨t, st, q⟩ := k _ rfl T hT X
  refine ⟨t, ?_, q⟩
  have h1 := X.daloadOut hexec (by rw [hT]; exact hP q0 _ ha) ((hK.2 t0 _ ht).1 n (fun j => .double (f j))) (j := i) (by show (i < 0 ∨ (arrV _ _ _).slots.size ≤ _); rw [arrV_size]; exact Classical.byContradiction hout) (g := F0 m pc ls (.int i :: .ref a :: rest)) rfl (rest := rest) rfl (by rw [hb]; exact hdg) t
  simp only [arrV_size] at h1
  exact h1 st
theorem vx_dastZ {D : va_G} {cl : List vw_C} {ws : va_W} {tys : List (ClassId × FieldType)} {a : Nat} (hexec : p.tables.exec = Jvm.exec) (hb : c.code = cc) (hK : va_K D cl tys s) (hP : va_P D cl ws H) (q0 t0 : Nat) {cA : ClassId} {n : Nat} {f : Nat → UInt64} (ha : ws[q0]? = some (a, .inl (cA, n, .inr (.inr (.inr (.inl f)))))) (ht : tys[t0]? = some (cA, .double)) {i : Int32} {x : UInt64} (hout : ¬ vp_in i n) (hdg : decode cc pc = .ok (.dastore, 1))
    (k : ∀ tx : String, tx = (toString "Index " ++ toString i ++ toString " out of bounds for length " ++ toString n : String) → vx_Note p l e R s m args below meth c H locs cells slots Q (F0 m pc ls rest) "java/lang/ArrayIndexOutOfBoundsException" tx) : W p l e R s m args below meth c H locs cells slots Q (F0 m pc ls (.double x :: .int i :: .ref a :: rest)) := by
  intro T hT X
  obtain ⟨t, st, q⟩ := k _ rfl T hT X
  refine ⟨t, ?_, q⟩
  have h1 := X.dastoreOut hexec (by rw [hT]; exact hP q0 _ ha) ((hK.2 t0 _ ht).1 n (fun j => .double (f j))) (j := i) (by show (i < 0 ∨ (arrV _ _ _).slots.size ≤ _); rw [arrV_size]; exact Classical.byContradiction hout) (g := F0 m pc ls (.double x :: .int i :: .ref a :: rest)) rfl (rest := rest) rfl (by rw [hb]; exact hdg) t
  simp only [arrV_size] at h1
  exact h1 st
theorem vx_arraylengthN (hexec : p.tables.exec = Jvm.exec) (hb : c.code = cc) (hdg : decode cc pc = .ok (.arraylength, 1)) (k : vx_NoteN p l e R s m args below meth c H locs cells slots Q (F0 m pc ls rest)) : W p l e R s m args below meth c H locs cells slots Q (F0 m pc ls (.null :: rest)) := by
  intro T hT X
  obtain ⟨t, st, q⟩ := k T hT X
  exact ⟨t, X.arraylengthNull hexec (g := F0 m pc ls (.null :: rest)) rfl (rest := rest) rfl (by rw [hb]; exact hdg) t st, q⟩
theorem vx_ialoadN (hexec : p.tables.exec = Jvm.exec) (hb : c.code = cc) {i : Int32} (hdg : decode cc pc = .ok (.iaload, 1)) (k : vx_NoteN p l e R s m args below meth c H locs cells slots Q (F0 m pc ls rest)) : W p l e R s m args below meth c H locs cells slots Q (F0 m pc ls (.int i :: .null :: rest)) := by
  intro T hT X
  obtain ⟨t, st, q⟩ := k T hT X
  exact ⟨t, X.ialoadNull hexec (g := F0 m pc ls (.int i :: .null :: rest)) rfl (rest := rest) rfl (by rw [hb]; exact hdg) t st, q⟩
theorem vx_laloadN (hexec : p.tables.exec = Jvm.exec) (hb : c.code = cc) {i : Int32} (hdg : decode cc pc = .ok (.laload, 1)) (k : vx_NoteN p l e R s m args below meth c H locs cells slots Q (F0 m pc ls rest)) : W p l e R s m args below meth c H locs cells slots Q (F0 m pc ls (.int i :: .null :: rest)) := by
  intro T hT X
  obtain ⟨t, st, q⟩ := k T hT X
  exact ⟨t, X.laloadNull hexec (g := F0 m pc ls (.int i :: .null :: rest)) rfl (rest := rest) rfl (by rw [hb]; exact hdg) t st, q⟩
theorem vx_faloadN (hexec : p.tables.exec = Jvm.exec) (hb : c.code = cc) {i : Int32} (hdg : decode cc pc = .ok (.faload, 1)) (k : vx_NoteN p l e R s m args below meth c H locs cells slots Q (F0 m pc ls rest)) : W p l e R s m args below meth c H locs cells slots Q (F0 m pc ls (.int i :: .null :: rest)) := by
  intro T hT X
  obtain ⟨t, st, q⟩ := k T hT X
  exact ⟨t, X.faloadNull hexec (g := F0 m pc ls (.int i :: .null :: rest)) rfl (rest := rest) rfl (by rw [hb]; exact hdg) t st, q⟩
theorem vx_daloadN (hexec : p.tables.exec = Jvm.exec) (hb : c.code = cc) {i : Int32} (hdg : decode cc pc = .ok (.daload, 1)) (k : vx_NoteN p l e R s m args below meth c H locs cells slots Q (F0 m pc ls rest)) : W p l e R s m args below meth c H locs cells slots Q (F0 m pc ls (.int i :: .null :: rest)) := by
  intro T hT X
  obtain ⟨t, st, q⟩ := k T hT X
  exact ⟨t, X.daloadNull hexec (g := F0 m pc ls (.int i :: .null :: rest)) rfl (rest := rest) rfl (by rw [hb]; exact hdg) t st, q⟩
theorem vx_aaloadN (hexec : p.tables.exec = Jvm.exec) (hb : c.code = cc) {i : Int32} (hdg : decode cc pc = .ok (.aaload, 1)) (k : vx_NoteN p l e R s m args below meth c H locs cells slots Q (F0 m pc ls rest)) : W p l e R s m args below meth c H locs cells slots Q (F0 m pc ls (.int i :: .null :: rest)) := by
  intro T hT X
  obtain ⟨t, st, q⟩ := k T hT X
  exact ⟨t, X.aaloadNull hexec (g := F0 m pc ls (.int i :: .null :: rest)) rfl (rest := rest) rfl (by rw [hb]; exact hdg) t st, q⟩
theorem vx_baloadN (hexec : p.tables.exec = Jvm.exec) (hb : c.code = cc) {i : Int32} (hdg : decode cc pc = .ok (.baload, 1)) (k : vx_NoteN p l e R s m args below meth c H locs cells slots Q (F0 m pc ls rest)) : W p l e R s m args below meth c H locs cells slots Q (F0 m pc ls (.int i :: .null :: rest)) := by
  intro T hT X
  obtain ⟨t, st, q⟩ := k T hT X
  exact ⟨t, X.baloadNull hexec (g := F0 m pc ls (.int i :: .null :: rest)) rfl (rest := rest) rfl (by rw [hb]; exact hdg) t st, q⟩
theorem vx_caloadN (hexec : p.tables.exec = Jvm.exec) (hb : c.code = cc) {i : Int32} (hdg : decode cc pc = .ok (.caload, 1)) (k : vx_NoteN p l e R s m args below meth c H locs cells slots Q (F0 m pc ls rest)) : W p l e R s m args below meth c H locs cells slots Q (F0 m pc ls (.int i :: .null :: rest)) := by
  intro T hT X
  obtain ⟨t, st, q⟩ := k T hT X
  exact ⟨t, X.caloadNull hexec (g := F0 m pc ls (.int i :: .null :: rest)) rfl (rest := rest) rfl (by rw [hb]; exact hdg) t st, q⟩
theorem vx_saloadN (hexec : p.tables.exec = Jvm.exec) (hb : c.code = cc) {i : Int32} (hdg : decode cc pc = .ok (.saload, 1)) (k : vx_NoteN p l e R s m args below meth c H locs cells slots Q (F0 m pc ls rest)) : W p l e R s m args below meth c H locs cells slots Q (F0 m pc ls (.int i :: .null :: rest)) := by
  intro T hT X
  obtain ⟨t, st, q⟩ := k T hT X
  exact ⟨t, X.saloadNull hexec (g := F0 m pc ls (.int i :: .null :: rest)) rfl (rest := rest) rfl (by rw [hb]; exact hdg) t st, q⟩
theorem vx_iastoreN (hexec : p.tables.exec = Jvm.exec) (hb : c.code = cc) {x : Int32} {i : Int32} (hdg : decode cc pc = .ok (.iastore, 1)) (k : vx_NoteN p l e R s m args below meth c H locs cells slots Q (F0 m pc ls rest)) : W p l e R s m args below meth c H locs cells slots Q (F0 m pc ls (.int x :: .int i :: .null :: rest)) := by
  intro T hT X
  obtain ⟨t, st, q⟩ := k T hT X
  exact ⟨t, X.iastoreNull hexec (g := F0 m pc ls (.int x :: .int i :: .null :: rest)) rfl (rest := rest) rfl (by rw [hb]; exact hdg) t st, q⟩
theorem vx_lastoreN (hexec : p.tables.exec = Jvm.exec) (hb : c.code = cc) {x : Int64} {i : Int32} (hdg : decode cc pc = .ok (.lastore, 1)) (k : vx_NoteN p l e R s m args below meth c H locs cells slots Q (F0 m pc ls rest)) : W p l e R s m args below meth c H locs cells slots Q (F0 m pc ls (.long x :: .int i :: .null :: rest)) := by
  intro T hT X
  obtain ⟨t, st, q⟩ := k T hT X
  exact ⟨t, X.lastoreNull hexec (g := F0 m pc ls (.long x :: .int i :: .null :: rest)) rfl (rest := rest) rfl (by rw [hb]; exact hdg) t st, q⟩
theorem vx_fastoreN (hexec : p.tables.exec = Jvm.exec) (hb : c.code = cc) {x : UInt32} {i : Int32} (hdg : decode cc pc = .ok (.fastore, 1)) (k : vx_NoteN p l e R s m args below meth c H locs cells slots Q (F0 m pc ls rest)) : W p l e R s m args below meth c H locs cells slots Q (F0 m pc ls (.float x :: .int i :: .null :: rest)) := by
  intro T hT X
  obtain ⟨t, st, q⟩ := k T hT X
  exact ⟨t, X.fastoreNull hexec (g := F0 m pc ls (.float x :: .int i :: .null :: rest)) rfl (rest := rest) rfl (by rw [hb]; exact hdg) t st, q⟩
theorem vx_dastoreN (hexec : p.tables.exec = Jvm.exec) (hb : c.code = cc) {x : UInt64} {i : Int32} (hdg : decode cc pc = .ok (.dastore, 1)) (k : vx_NoteN p l e R s m args below meth c H locs cells slots Q (F0 m pc ls rest)) : W p l e R s m args below meth c H locs cells slots Q (F0 m pc ls (.double x :: .int i :: .null :: rest)) := by
  intro T hT X
  obtain ⟨t, st, q⟩ := k T hT X
  exact ⟨t, X.dastoreNull hexec (g := F0 m pc ls (.double x :: .int i :: .null :: rest)) rfl (rest := rest) rfl (by rw [hb]; exact hdg) t st, q⟩
theorem vx_bastoreN (hexec : p.tables.exec = Jvm.exec) (hb : c.code = cc) {x : Int32} {i : Int32} (hdg : decode cc pc = .ok (.bastore, 1)) (k : vx_NoteN p l e R s m args below meth c H locs cells slots Q (F0 m pc ls rest)) : W p l e R s m args below meth c H locs cells slots Q (F0 m pc ls (.int x :: .int i :: .null :: rest)) := by
  intro T hT X
  obtain ⟨t, st, q⟩ := k T hT X
  exact ⟨t, X.bastoreNull hexec (g := F0 m pc ls (.int x :: .int i :: .null :: rest)) rfl (rest := rest) rfl (by rw [hb]; exact hdg) t st, q⟩
theorem vx_castoreN (hexec : p.tables.exec = Jvm.exec) (hb : c.code = cc) {x : Int32} {i : Int32} (hdg : decode cc pc = .ok (.castore, 1)) (k : vx_NoteN p l e R s m args below meth c H locs cells slots Q (F0 m pc ls rest)) : W p l e R s m args below meth c H locs cells slots Q (F0 m pc ls (.int x :: .int i :: .null :: rest)) := by
  intro T hT X
  obtain ⟨t, st, q⟩ := k T hT X
  exact ⟨t, X.castoreNull hexec (g := F0 m pc ls (.int x :: .int i :: .null :: rest)) rfl (rest := rest) rfl (by rw [hb]; exact hdg) t st, q⟩
theorem vx_sastoreN (hexec : p.tables.exec = Jvm.exec) (hb : c.code = cc) {x : Int32} {i : Int32} (hdg : decode cc pc = .ok (.sastore, 1)) (k : vx_NoteN p l e R s m args below meth c H locs cells slots Q (F0 m pc ls rest)) : W p l e R s m args below meth c H locs cells slots Q (F0 m pc ls (.int x :: .int i :: .null :: rest)) := by
  intro T hT X
  obtain ⟨t, st, q⟩ := k T hT X
  exact ⟨t, X.sastoreNull hexec (g := F0 m pc ls (.int x :: .int i :: .null :: rest)) rfl (rest := rest) rfl (by rw [hb]; exact hdg) t st, q⟩
theorem vx_invokeN {own C : String} {index maxL : Nat} {y : MethodName} {bytes : ByteArray} {ret : Option FieldType} (hexec : p.tables.exec = Jvm.exec) (hb : c.code = cc) (hown : s.vm.findClass own = some m.cls) (hlink : (Cond.methodLink own index y).before args s = true) (hinst : (Cond.instanceMethod y).before args s = true) (hcode : (Cond.code y bytes maxL ret).before args s = true) (hsel : (Cond.selects C y y).before args s = true)
    (hx : y.cls ≠ "java/lang/invoke/MethodHandle" ∧ y.cls ≠ "java/lang/invoke/VarHandle") {As : List Value} (hlen : (parseMethodDescriptor y.desc).map (fun d => d.parameters.length) = some As.length) (hdg : decode cc pc = .ok (.invokevirtual index, 3))
    (k : vx_NoteN p l e R s m args below meth c H locs cells slots Q (F0 m pc ls rest)) {st0 : List Value} (hst : st0 = As.reverse ++ .null :: rest) : W p l e R s m args below meth c H locs cells slots Q (F0 m pc ls st0) := by
  intro T hT X
  obtain ⟨r0, r, hn, hrm, hstR, hsigR⟩ := va_Decl.of hinst hcode
  obtain ⟨c2, r2, m2, q1, q2, q3, q4, kP, hkP, hkPi⟩ := Cond.selects_spec hsel
  cases hn.symm.trans q3
  have hl9 : As.length = r.sig.parameters.length := by
    rw [hsigR] at hlen
    exact (Option.some.inj hlen).symm
  obtain ⟨vm', X1, st1⟩ := X.invokevirtualNull hexec hown hlink hn hrm hstR hkP hkPi hx (g := F0 m pc ls st0) rfl (argsL := As) (rest := rest) hl9 hst (by rw [hb]; exact hdg)
  obtain ⟨t, st, q⟩ := k (T.setVm vm') hT X1
  exact ⟨t, st1 t st, q⟩
theorem vx_newarrayZ {atype : ArrayType} (hexec : p.tables.exec = Jvm.exec) (hb : c.code = cc) {n : Int32} (h0 : n < 0) (hdg : decode cc pc = .ok (.newarray atype, 2)) (k : ∀ tx : String, tx = toString n → vx_Note p l e R s m args below meth c H locs cells slots Q (F0 m pc ls rest) "java/lang/NegativeArraySizeException" tx) : W p l e R s m args below meth c H locs cells slots Q (F0 m pc ls (.int n :: rest)) := by
  intro T hT X
  obtain ⟨t, st, q⟩ := k _ rfl T hT X
  exact ⟨t, X.newarrayNegative hexec (g := F0 m pc ls (.int n :: rest)) rfl h0 (rest := rest) rfl (by rw [hb]; exact hdg) t st, q⟩
end
end VXM
/-! ===== END ===== -/
end
section
def RX0 : String := "LiftDesk$Badge"
def TX0 : u_T := fun k => match k with
  | 0 => ("LiftDesk$Badge", "tenant", "I", true)
  | _ => ("LiftDesk$Badge", "isRevoked", "Z", false)
def tyX0 : Nat → FieldType := fun k => match k with
  | 0 => .int
  | _ => .boolean
abbrev wsX00 : List Cond := u_ws RX0 TX0 2
theorem nmX0 : ∀ a, a < 2 → ∀ b, b < 2 → a ≠ b → (TX0 a).2.1 ≠ (TX0 b).2.1 := by decide +kernel
theorem tyX0_ok : ∀ k, k < 2 → parseFieldDescriptor (TX0 k).2.2.1 = some (tyX0 k) := by decide +kernel
abbrev cX0_init : ByteArray := prog_2_method_1_code
def yX0_init : MethodName := ⟨RX0, "<init>", "(I)V"⟩
def RX1 : String := "LiftDesk$Entry"
def TX1 : u_T := fun k => match k with
  | 0 => ("LiftDesk$Entry", "rider", "I", true)
  | 1 => ("LiftDesk$Entry", "state", "C", true)
  | _ => ("LiftDesk$Entry", "time", "I", true)
def tyX1 : Nat → FieldType := fun k => match k with
  | 0 => .int
  | 1 => .char
  | _ => .int
abbrev wsX10 : List Cond := u_ws RX1 TX1 3
theorem nmX1 : ∀ a, a < 3 → ∀ b, b < 3 → a ≠ b → (TX1 a).2.1 ≠ (TX1 b).2.1 := by decide +kernel
theorem tyX1_ok : ∀ k, k < 3 → parseFieldDescriptor (TX1 k).2.2.1 = some (tyX1 k) := by decide +kernel
abbrev cX1_init : ByteArray := prog_3_method_1_code
def yX1_init : MethodName := ⟨RX1, "<init>", "(ICI)V"⟩
def RX2 : String := "LiftDesk$Lift"
def TX2 : u_T := fun k => match k with
  | 0 => ("LiftDesk$Lift", "number", "I", true)
  | 1 => ("LiftDesk$Lift", "capacity", "I", true)
  | 2 => ("LiftDesk$Lift", "floor", "I", false)
  | 3 => ("LiftDesk$Lift", "isUp", "Z", false)
  | 4 => ("LiftDesk$Lift", "service", "C", false)
  | _ => ("LiftDesk$Lift", "cleaningLeft", "I", false)
def tyX2 : Nat → FieldType := fun k => match k with
  | 0 => .int
  | 1 => .int
  | 2 => .int
  | 3 => .boolean
  | 4 => .char
  | _ => .int
abbrev wsX20 : List Cond := u_ws RX2 TX2 6
theorem nmX2 : ∀ a, a < 6 → ∀ b, b < 6 → a ≠ b → (TX2 a).2.1 ≠ (TX2 b).2.1 := by decide +kernel
theorem tyX2_ok : ∀ k, k < 6 → parseFieldDescriptor (TX2 k).2.2.1 = some (tyX2 k) := by decide +kernel
abbrev cX2_init : ByteArray := prog_4_method_1_code
def yX2_init : MethodName := ⟨RX2, "<init>", "(II)V"⟩
abbrev cX2_cleanForOneTick : ByteArray := prog_4_method_2_code
def yX2_cleanForOneTick : MethodName := ⟨RX2, "cleanForOneTick", "()V"⟩
def RX3 : String := "LiftDesk$Rider"
def TX3 : u_T := fun k => match k with
  | 0 => ("LiftDesk$Rider", "number", "I", true)
  | 1 => ("LiftDesk$Rider", "badge", "LLiftDesk$Badge;", true)
  | 2 => ("LiftDesk$Rider", "floor", "I", false)
  | 3 => ("LiftDesk$Rider", "aim", "I", false)
  | 4 => ("LiftDesk$Rider", "state", "C", false)
  | 5 => ("LiftDesk$Rider", "lift", "LLiftDesk$Lift;", false)
  | _ => ("LiftDesk$Rider", "waited", "I", false)
def tyX3 : Nat → FieldType := fun k => match k with
  | 0 => .int
  | 1 => .object "LiftDesk$Badge"
  | 2 => .int
  | 3 => .int
  | 4 => .char
  | 5 => .object "LiftDesk$Lift"
  | _ => .int
abbrev wsX30 : List Cond := u_ws RX3 TX3 7
theorem nmX3 : ∀ a, a < 7 → ∀ b, b < 7 → a ≠ b → (TX3 a).2.1 ≠ (TX3 b).2.1 := by decide +kernel
theorem tyX3_ok : ∀ k, k < 7 → parseFieldDescriptor (TX3 k).2.2.1 = some (tyX3 k) := by decide +kernel
abbrev cX3_init : ByteArray := prog_5_method_1_code
def yX3_init : MethodName := ⟨RX3, "<init>", "(ILLiftDesk$Badge;II)V"⟩
abbrev cX3_isIn : ByteArray := prog_5_method_2_code
def yX3_isIn : MethodName := ⟨RX3, "isIn", "(LLiftDesk$Lift;)Z"⟩
abbrev cX3_waitsFor : ByteArray := prog_5_method_3_code
def yX3_waitsFor : MethodName := ⟨RX3, "waitsFor", "(LLiftDesk$Lift;)Z"⟩
def RX4 : String := "LiftDesk"
def TX4 : u_T := fun k => match k with
  | 0 => ("LiftDesk", "tenants", "[I", true)
  | 1 => ("LiftDesk", "firstTimes", "[I", true)
  | 2 => ("LiftDesk", "endTimes", "[I", true)
  | 3 => ("LiftDesk", "badges", "Ljava/util/ArrayList;", true)
  | 4 => ("LiftDesk", "lifts", "Ljava/util/ArrayList;", true)
  | 5 => ("LiftDesk", "riders", "Ljava/util/ArrayList;", true)
  | 6 => ("LiftDesk", "present", "Ljava/util/ArrayList;", true)
  | 7 => ("LiftDesk", "log", "Ljava/util/ArrayList;", true)
  | 8 => ("LiftDesk", "now", "I", false)
  | 9 => ("LiftDesk", "alarmFloor", "I", false)
  | 10 => ("LiftDesk", "openings", "I", false)
  | _ => ("LiftDesk", "refusals", "I", false)
def tyX4 : Nat → FieldType := fun k => match k with
  | 0 => .array .int
  | 1 => .array .int
  | 2 => .array .int
  | 3 => .object "java/util/ArrayList"
  | 4 => .object "java/util/ArrayList"
  | 5 => .object "java/util/ArrayList"
  | 6 => .object "java/util/ArrayList"
  | 7 => .object "java/util/ArrayList"
  | 8 => .int
  | 9 => .int
  | 10 => .int
  | _ => .int
abbrev wsX40 : List Cond := u_ws RX4 TX4 12
theorem nmX4 : ∀ a, a < 12 → ∀ b, b < 12 → a ≠ b → (TX4 a).2.1 ≠ (TX4 b).2.1 := by decide +kernel
theorem tyX4_ok : ∀ k, k < 12 → parseFieldDescriptor (TX4 k).2.2.1 = some (tyX4 k) := by decide +kernel
abbrev cX4_init : ByteArray := prog_1_method_1_code
def yX4_init : MethodName := ⟨RX4, "<init>", "()V"⟩
abbrev cX4_addLift : ByteArray := prog_1_method_2_code
def yX4_addLift : MethodName := ⟨RX4, "addLift", "(I)I"⟩
abbrev cX4_setTenant : ByteArray := prog_1_method_3_code
def yX4_setTenant : MethodName := ⟨RX4, "setTenant", "(II)I"⟩
abbrev cX4_setHours : ByteArray := prog_1_method_4_code
def yX4_setHours : MethodName := ⟨RX4, "setHours", "(III)I"⟩
abbrev cX4_addBadge : ByteArray := prog_1_method_5_code
def yX4_addBadge : MethodName := ⟨RX4, "addBadge", "(I)I"⟩
abbrev cX4_setRevoked : ByteArray := prog_1_method_6_code
def yX4_setRevoked : MethodName := ⟨RX4, "setRevoked", "(IZ)Z"⟩
abbrev cX4_reason : ByteArray := prog_1_method_7_code
def yX4_reason : MethodName := ⟨RX4, "reason", "(II)C"⟩
abbrev cX4_call : ByteArray := prog_1_method_8_code
def yX4_call : MethodName := ⟨RX4, "call", "(III)I"⟩
abbrev cX4_state : ByteArray := prog_1_method_9_code
def yX4_state : MethodName := ⟨RX4, "state", "(I)C"⟩
abbrev cX4_floorOf : ByteArray := prog_1_method_10_code
def yX4_floorOf : MethodName := ⟨RX4, "floorOf", "(I)I"⟩
abbrev cX4_aim : ByteArray := prog_1_method_11_code
def yX4_aim : MethodName := ⟨RX4, "aim", "(I)I"⟩
abbrev cX4_liftOf : ByteArray := prog_1_method_12_code
def yX4_liftOf : MethodName := ⟨RX4, "liftOf", "(I)I"⟩
abbrev cX4_waited : ByteArray := prog_1_method_13_code
def yX4_waited : MethodName := ⟨RX4, "waited", "(I)I"⟩
abbrev cX4_waitedByLog : ByteArray := prog_1_method_14_code
def yX4_waitedByLog : MethodName := ⟨RX4, "waitedByLog", "(I)I"⟩
abbrev cX4_entries : ByteArray := prog_1_method_15_code
def yX4_entries : MethodName := ⟨RX4, "entries", "()I"⟩
abbrev cX4_callOff : ByteArray := prog_1_method_16_code
def yX4_callOff : MethodName := ⟨RX4, "callOff", "(I)I"⟩
abbrev cX4_service : ByteArray := prog_1_method_17_code
def yX4_service : MethodName := ⟨RX4, "service", "(I)C"⟩
abbrev cX4_floorOfLift : ByteArray := prog_1_method_18_code
def yX4_floorOfLift : MethodName := ⟨RX4, "floorOfLift", "(I)I"⟩
abbrev cX4_isUp : ByteArray := prog_1_method_19_code
def yX4_isUp : MethodName := ⟨RX4, "isUp", "(I)Z"⟩
abbrev cX4_aboard : ByteArray := prog_1_method_20_code
def yX4_aboard : MethodName := ⟨RX4, "aboard", "(I)I"⟩
abbrev cX4_score : ByteArray := prog_1_method_21_code
def yX4_score : MethodName := ⟨RX4, "score", "(II)I"⟩
abbrev cX4_pass : ByteArray := prog_1_method_22_code
def yX4_pass : MethodName := ⟨RX4, "pass", "(I)I"⟩
abbrev cX4_time : ByteArray := prog_1_method_23_code
def yX4_time : MethodName := ⟨RX4, "time", "()I"⟩
abbrev cX4_alarm : ByteArray := prog_1_method_24_code
def yX4_alarm : MethodName := ⟨RX4, "alarm", "(I)I"⟩
abbrev cX4_isAlarm : ByteArray := prog_1_method_25_code
def yX4_isAlarm : MethodName := ⟨RX4, "isAlarm", "()Z"⟩
abbrev cX4_turn : ByteArray := prog_1_method_26_code
def yX4_turn : MethodName := ⟨RX4, "turn", "()I"⟩
abbrev cX4_opened : ByteArray := prog_1_method_27_code
def yX4_opened : MethodName := ⟨RX4, "opened", "()I"⟩
abbrev cX4_refused : ByteArray := prog_1_method_28_code
def yX4_refused : MethodName := ⟨RX4, "refused", "()I"⟩
abbrev cX4_doneShare : ByteArray := prog_1_method_29_code
def yX4_doneShare : MethodName := ⟨RX4, "doneShare", "()F"⟩
abbrev cX4_meanWait : ByteArray := prog_1_method_30_code
def yX4_meanWait : MethodName := ⟨RX4, "meanWait", "()D"⟩
abbrev cX4_badgeNumbered : ByteArray := prog_1_method_31_code
def yX4_badgeNumbered : MethodName := ⟨RX4, "badgeNumbered", "(I)LLiftDesk$Badge;"⟩
abbrev cX4_riderNumbered : ByteArray := prog_1_method_32_code
def yX4_riderNumbered : MethodName := ⟨RX4, "riderNumbered", "(I)LLiftDesk$Rider;"⟩
abbrev cX4_liftNumbered : ByteArray := prog_1_method_33_code
def yX4_liftNumbered : MethodName := ⟨RX4, "liftNumbered", "(I)LLiftDesk$Lift;"⟩
abbrev cX4_checkFloor : ByteArray := prog_1_method_34_code
def yX4_checkFloor : MethodName := ⟨RX4, "checkFloor", "(I)V"⟩
abbrev cX4_whyNot : ByteArray := prog_1_method_35_code
def yX4_whyNot : MethodName := ⟨RX4, "whyNot", "(LLiftDesk$Badge;I)C"⟩
abbrev cX4_hasRider : ByteArray := prog_1_method_36_code
def yX4_hasRider : MethodName := ⟨RX4, "hasRider", "(LLiftDesk$Badge;)Z"⟩
abbrev cX4_countAboard : ByteArray := prog_1_method_37_code
def yX4_countAboard : MethodName := ⟨RX4, "countAboard", "(LLiftDesk$Lift;)I"⟩
abbrev cX4_hasRoom : ByteArray := prog_1_method_38_code
def yX4_hasRoom : MethodName := ⟨RX4, "hasRoom", "(LLiftDesk$Lift;)Z"⟩
abbrev cX4_note : ByteArray := prog_1_method_39_code
def yX4_note : MethodName := ⟨RX4, "note", "(LLiftDesk$Rider;)V"⟩
abbrev cX4_ticksByLog : ByteArray := prog_1_method_40_code
def yX4_ticksByLog : MethodName := ⟨RX4, "ticksByLog", "(LLiftDesk$Rider;)I"⟩
abbrev cX4_goAboard : ByteArray := prog_1_method_41_code
def yX4_goAboard : MethodName := ⟨RX4, "goAboard", "(LLiftDesk$Rider;)V"⟩
abbrev cX4_finish : ByteArray := prog_1_method_42_code
def yX4_finish : MethodName := ⟨RX4, "finish", "(LLiftDesk$Rider;I)V"⟩
abbrev cX4_scoreOf : ByteArray := prog_1_method_43_code
def yX4_scoreOf : MethodName := ⟨RX4, "scoreOf", "(LLiftDesk$Lift;I)I"⟩
abbrev cX4_giveLift : ByteArray := prog_1_method_44_code
def yX4_giveLift : MethodName := ⟨RX4, "giveLift", "(LLiftDesk$Rider;)V"⟩
abbrev cX4_giveLiftsToAll : ByteArray := prog_1_method_45_code
def yX4_giveLiftsToAll : MethodName := ⟨RX4, "giveLiftsToAll", "()V"⟩
abbrev cX4_giveLiftsInTurn : ByteArray := prog_1_method_46_code
def yX4_giveLiftsInTurn : MethodName := ⟨RX4, "giveLiftsInTurn", "()V"⟩
abbrev cX4_loseLift : ByteArray := prog_1_method_47_code
def yX4_loseLift : MethodName := ⟨RX4, "loseLift", "(LLiftDesk$Lift;)I"⟩
abbrev cX4_passOneTick : ByteArray := prog_1_method_48_code
def yX4_passOneTick : MethodName := ⟨RX4, "passOneTick", "()V"⟩
abbrev cX4_countWaiting : ByteArray := prog_1_method_49_code
def yX4_countWaiting : MethodName := ⟨RX4, "countWaiting", "()V"⟩
abbrev cX4_runLift : ByteArray := prog_1_method_50_code
def yX4_runLift : MethodName := ⟨RX4, "runLift", "(LLiftDesk$Lift;)V"⟩
abbrev cX4_letOut : ByteArray := prog_1_method_51_code
def yX4_letOut : MethodName := ⟨RX4, "letOut", "(LLiftDesk$Lift;)Z"⟩
abbrev cX4_letIn : ByteArray := prog_1_method_52_code
def yX4_letIn : MethodName := ⟨RX4, "letIn", "(LLiftDesk$Lift;)Z"⟩
abbrev cX4_move : ByteArray := prog_1_method_53_code
def yX4_move : MethodName := ⟨RX4, "move", "(LLiftDesk$Lift;)V"⟩
abbrev cX4_hasAimTowards : ByteArray := prog_1_method_54_code
def yX4_hasAimTowards : MethodName := ⟨RX4, "hasAimTowards", "(LLiftDesk$Lift;IZ)Z"⟩
abbrev cX4_sendAllToLobby : ByteArray := prog_1_method_55_code
def yX4_sendAllToLobby : MethodName := ⟨RX4, "sendAllToLobby", "()V"⟩
abbrev cX4_floorInTurn : ByteArray := prog_1_method_56_code
def yX4_floorInTurn : MethodName := ⟨RX4, "floorInTurn", "()I"⟩
abbrev cX4_isWaitedOn : ByteArray := prog_1_method_57_code
def yX4_isWaitedOn : MethodName := ⟨RX4, "isWaitedOn", "(I)Z"⟩
def RX5 : String := "LiftDeskModel"
def TX5 : u_T := fun k => match k with
  | 0 => ("LiftDeskModel", "thrown", "I", false)
  | 1 => ("LiftDeskModel", "tenants", "[I", true)
  | 2 => ("LiftDeskModel", "opens", "[I", true)
  | 3 => ("LiftDeskModel", "closes", "[I", true)
  | 4 => ("LiftDeskModel", "badgeTenants", "[I", true)
  | 5 => ("LiftDeskModel", "isRevoked", "[Z", true)
  | 6 => ("LiftDeskModel", "badges", "I", false)
  | 7 => ("LiftDeskModel", "badgeOf", "[I", true)
  | 8 => ("LiftDeskModel", "at", "[I", true)
  | 9 => ("LiftDeskModel", "aims", "[I", true)
  | 10 => ("LiftDeskModel", "lifts", "[I", true)
  | 11 => ("LiftDeskModel", "calledAt", "[I", true)
  | 12 => ("LiftDeskModel", "wentAt", "[I", true)
  | 13 => ("LiftDeskModel", "states", "[C", true)
  | 14 => ("LiftDeskModel", "riders", "I", false)
  | 15 => ("LiftDeskModel", "entries", "I", false)
  | 16 => ("LiftDeskModel", "done", "I", false)
  | 17 => ("LiftDeskModel", "rooms", "[I", true)
  | 18 => ("LiftDeskModel", "where", "[I", true)
  | 19 => ("LiftDeskModel", "left", "[I", true)
  | 20 => ("LiftDeskModel", "services", "[C", true)
  | 21 => ("LiftDeskModel", "isUp", "[Z", true)
  | 22 => ("LiftDeskModel", "liftMany", "I", false)
  | 23 => ("LiftDeskModel", "time", "I", false)
  | 24 => ("LiftDeskModel", "opened", "I", false)
  | 25 => ("LiftDeskModel", "refused", "I", false)
  | 26 => ("LiftDeskModel", "alarmFloor", "I", false)
  | _ => ("LiftDeskModel", "isAlarm", "Z", false)
def tyX5 : Nat → FieldType := fun k => match k with
  | 0 => .int
  | 1 => .array .int
  | 2 => .array .int
  | 3 => .array .int
  | 4 => .array .int
  | 5 => .array .boolean
  | 6 => .int
  | 7 => .array .int
  | 8 => .array .int
  | 9 => .array .int
  | 10 => .array .int
  | 11 => .array .int
  | 12 => .array .int
  | 13 => .array .char
  | 14 => .int
  | 15 => .int
  | 16 => .int
  | 17 => .array .int
  | 18 => .array .int
  | 19 => .array .int
  | 20 => .array .char
  | 21 => .array .boolean
  | 22 => .int
  | 23 => .int
  | 24 => .int
  | 25 => .int
  | 26 => .int
  | _ => .boolean
abbrev wsX50 : List Cond := u_ws RX5 TX5 28
theorem nmX5 : ∀ a, a < 28 → ∀ b, b < 28 → a ≠ b → (TX5 a).2.1 ≠ (TX5 b).2.1 := by decide +kernel
theorem tyX5_ok : ∀ k, k < 28 → parseFieldDescriptor (TX5 k).2.2.1 = some (tyX5 k) := by decide +kernel
abbrev cX5_thrown : ByteArray := prog_7_method_1_code
def yX5_thrown : MethodName := ⟨RX5, "thrown", "()I"⟩
abbrev cX5_fails : ByteArray := prog_7_method_2_code
def yX5_fails : MethodName := ⟨RX5, "fails", "(I)I"⟩
abbrev cX5_isWrong : ByteArray := prog_7_method_3_code
def yX5_isWrong : MethodName := ⟨RX5, "isWrong", "(I)Z"⟩
abbrev cX5_isBetween : ByteArray := prog_7_method_4_code
def yX5_isBetween : MethodName := ⟨RX5, "isBetween", "(III)Z"⟩
abbrev cX5_isFloor : ByteArray := prog_7_method_5_code
def yX5_isFloor : MethodName := ⟨RX5, "isFloor", "(I)Z"⟩
abbrev cX5_init : ByteArray := prog_7_method_6_code
def yX5_init : MethodName := ⟨RX5, "<init>", "()V"⟩
abbrev cX5_isBadge : ByteArray := prog_7_method_7_code
def yX5_isBadge : MethodName := ⟨RX5, "isBadge", "(I)Z"⟩
abbrev cX5_isRider : ByteArray := prog_7_method_8_code
def yX5_isRider : MethodName := ⟨RX5, "isRider", "(I)Z"⟩
abbrev cX5_isLift : ByteArray := prog_7_method_9_code
def yX5_isLift : MethodName := ⟨RX5, "isLift", "(I)Z"⟩
abbrev cX5_addLift : ByteArray := prog_7_method_10_code
def yX5_addLift : MethodName := ⟨RX5, "addLift", "(I)I"⟩
abbrev cX5_setTenant : ByteArray := prog_7_method_11_code
def yX5_setTenant : MethodName := ⟨RX5, "setTenant", "(II)I"⟩
abbrev cX5_setHours : ByteArray := prog_7_method_12_code
def yX5_setHours : MethodName := ⟨RX5, "setHours", "(III)I"⟩
abbrev cX5_addBadge : ByteArray := prog_7_method_13_code
def yX5_addBadge : MethodName := ⟨RX5, "addBadge", "(I)I"⟩
abbrev cX5_setRevoked : ByteArray := prog_7_method_14_code
def yX5_setRevoked : MethodName := ⟨RX5, "setRevoked", "(IZ)Z"⟩
abbrev cX5_why : ByteArray := prog_7_method_15_code
def yX5_why : MethodName := ⟨RX5, "why", "(II)C"⟩
abbrev cX5_reason : ByteArray := prog_7_method_16_code
def yX5_reason : MethodName := ⟨RX5, "reason", "(II)C"⟩
abbrev cX5_aboardMany : ByteArray := prog_7_method_17_code
def yX5_aboardMany : MethodName := ⟨RX5, "aboardMany", "(I)I"⟩
abbrev cX5_scoreOf : ByteArray := prog_7_method_18_code
def yX5_scoreOf : MethodName := ⟨RX5, "scoreOf", "(II)I"⟩
abbrev cX5_gives : ByteArray := prog_7_method_19_code
def yX5_gives : MethodName := ⟨RX5, "gives", "(I)V"⟩
abbrev cX5_ends : ByteArray := prog_7_method_20_code
def yX5_ends : MethodName := ⟨RX5, "ends", "(II)V"⟩
abbrev cX5_isOut : ByteArray := prog_7_method_21_code
def yX5_isOut : MethodName := ⟨RX5, "isOut", "(I)Z"⟩
abbrev cX5_call : ByteArray := prog_7_method_22_code
def yX5_call : MethodName := ⟨RX5, "call", "(III)I"⟩
abbrev cX5_isNobody : ByteArray := prog_7_method_23_code
def yX5_isNobody : MethodName := ⟨RX5, "isNobody", "(I)Z"⟩
abbrev cX5_state : ByteArray := prog_7_method_24_code
def yX5_state : MethodName := ⟨RX5, "state", "(I)C"⟩
abbrev cX5_floorOf : ByteArray := prog_7_method_25_code
def yX5_floorOf : MethodName := ⟨RX5, "floorOf", "(I)I"⟩
abbrev cX5_aim : ByteArray := prog_7_method_26_code
def yX5_aim : MethodName := ⟨RX5, "aim", "(I)I"⟩
abbrev cX5_liftOf : ByteArray := prog_7_method_27_code
def yX5_liftOf : MethodName := ⟨RX5, "liftOf", "(I)I"⟩
abbrev cX5_waitedBy : ByteArray := prog_7_method_28_code
def yX5_waitedBy : MethodName := ⟨RX5, "waitedBy", "(I)I"⟩
abbrev cX5_waited : ByteArray := prog_7_method_29_code
def yX5_waited : MethodName := ⟨RX5, "waited", "(I)I"⟩
abbrev cX5_waitedByLog : ByteArray := prog_7_method_30_code
def yX5_waitedByLog : MethodName := ⟨RX5, "waitedByLog", "(I)I"⟩
abbrev cX5_entries : ByteArray := prog_7_method_31_code
def yX5_entries : MethodName := ⟨RX5, "entries", "()I"⟩
abbrev cX5_frees : ByteArray := prog_7_method_32_code
def yX5_frees : MethodName := ⟨RX5, "frees", "(I)I"⟩
abbrev cX5_callOff : ByteArray := prog_7_method_33_code
def yX5_callOff : MethodName := ⟨RX5, "callOff", "(I)I"⟩
abbrev cX5_isNoLift : ByteArray := prog_7_method_34_code
def yX5_isNoLift : MethodName := ⟨RX5, "isNoLift", "(I)Z"⟩
abbrev cX5_service : ByteArray := prog_7_method_35_code
def yX5_service : MethodName := ⟨RX5, "service", "(I)C"⟩
abbrev cX5_floorOfLift : ByteArray := prog_7_method_36_code
def yX5_floorOfLift : MethodName := ⟨RX5, "floorOfLift", "(I)I"⟩
abbrev cX5_isUp : ByteArray := prog_7_method_37_code
def yX5_isUp : MethodName := ⟨RX5, "isUp", "(I)Z"⟩
abbrev cX5_aboard : ByteArray := prog_7_method_38_code
def yX5_aboard : MethodName := ⟨RX5, "aboard", "(I)I"⟩
abbrev cX5_score : ByteArray := prog_7_method_39_code
def yX5_score : MethodName := ⟨RX5, "score", "(II)I"⟩
abbrev cX5_opens : ByteArray := prog_7_method_40_code
def yX5_opens : MethodName := ⟨RX5, "opens", "(I)Z"⟩
abbrev cX5_isAim : ByteArray := prog_7_method_41_code
def yX5_isAim : MethodName := ⟨RX5, "isAim", "(III)Z"⟩
abbrev cX5_hasAim : ByteArray := prog_7_method_42_code
def yX5_hasAim : MethodName := ⟨RX5, "hasAim", "(III)Z"⟩
abbrev cX5_goes : ByteArray := prog_7_method_43_code
def yX5_goes : MethodName := ⟨RX5, "goes", "(I)V"⟩
abbrev cX5_works : ByteArray := prog_7_method_44_code
def yX5_works : MethodName := ⟨RX5, "works", "(I)V"⟩
abbrev cX5_isWaiting : ByteArray := prog_7_method_45_code
def yX5_isWaiting : MethodName := ⟨RX5, "isWaiting", "(I)Z"⟩
abbrev cX5_turnNow : ByteArray := prog_7_method_46_code
def yX5_turnNow : MethodName := ⟨RX5, "turnNow", "()I"⟩
abbrev cX5_outMany : ByteArray := prog_7_method_47_code
def yX5_outMany : MethodName := ⟨RX5, "outMany", "()I"⟩
abbrev cX5_passesOne : ByteArray := prog_7_method_48_code
def yX5_passesOne : MethodName := ⟨RX5, "passesOne", "()V"⟩
abbrev cX5_pass : ByteArray := prog_7_method_49_code
def yX5_pass : MethodName := ⟨RX5, "pass", "(I)I"⟩
abbrev cX5_time : ByteArray := prog_7_method_50_code
def yX5_time : MethodName := ⟨RX5, "time", "()I"⟩
abbrev cX5_alarm : ByteArray := prog_7_method_51_code
def yX5_alarm : MethodName := ⟨RX5, "alarm", "(I)I"⟩
abbrev cX5_isAlarm : ByteArray := prog_7_method_52_code
def yX5_isAlarm : MethodName := ⟨RX5, "isAlarm", "()Z"⟩
abbrev cX5_turn : ByteArray := prog_7_method_53_code
def yX5_turn : MethodName := ⟨RX5, "turn", "()I"⟩
abbrev cX5_opened : ByteArray := prog_7_method_54_code
def yX5_opened : MethodName := ⟨RX5, "opened", "()I"⟩
abbrev cX5_refused : ByteArray := prog_7_method_55_code
def yX5_refused : MethodName := ⟨RX5, "refused", "()I"⟩
abbrev cX5_doneShare : ByteArray := prog_7_method_56_code
def yX5_doneShare : MethodName := ⟨RX5, "doneShare", "()F"⟩
abbrev cX5_meanWait : ByteArray := prog_7_method_57_code
def yX5_meanWait : MethodName := ⟨RX5, "meanWait", "()D"⟩
def RJx145de : String := "java/io/Serializable"
def TJx145de : u_T := fun k => match k with
  | _ => ("", "", "", false)
def tyJx145de : Nat → FieldType := fun k => match k with
  | _ => .int
abbrev wsJx145de0 : List Cond := u_ws RJx145de TJx145de 0
theorem nmJx145de : ∀ a, a < 0 → ∀ b, b < 0 → a ≠ b → (TJx145de a).2.1 ≠ (TJx145de b).2.1 := by decide +kernel
theorem tyJx145de_ok : ∀ k, k < 0 → parseFieldDescriptor (TJx145de k).2.2.1 = some (tyJx145de k) := by decide +kernel
def RJx00060 : String := "java/lang/ArrayIndexOutOfBoundsException"
def TJx00060 : u_T := fun k => match k with
  | 0 => ("java/lang/Throwable", "backtrace", "Ljava/lang/Object;", false)
  | 1 => ("java/lang/Throwable", "detailMessage", "Ljava/lang/String;", false)
  | 2 => ("java/lang/Throwable", "cause", "Ljava/lang/Throwable;", false)
  | 3 => ("java/lang/Throwable", "stackTrace", "[Ljava/lang/StackTraceElement;", false)
  | 4 => ("java/lang/Throwable", "depth", "I", false)
  | _ => ("java/lang/Throwable", "suppressedExceptions", "Ljava/util/List;", false)
def tyJx00060 : Nat → FieldType := fun k => match k with
  | 0 => .object "java/lang/Object"
  | 1 => .object "java/lang/String"
  | 2 => .object "java/lang/Throwable"
  | 3 => .array (.object "java/lang/StackTraceElement")
  | 4 => .int
  | _ => .object "java/util/List"
abbrev wsJx000600 : List Cond := u_ws RJx00060 TJx00060 6
theorem nmJx00060 : ∀ a, a < 6 → ∀ b, b < 6 → a ≠ b → (TJx00060 a).2.1 ≠ (TJx00060 b).2.1 := by decide +kernel
theorem tyJx00060_ok : ∀ k, k < 6 → parseFieldDescriptor (TJx00060 k).2.2.1 = some (tyJx00060 k) := by decide +kernel
abbrev cJx00060_init_a7421 : ByteArray := prog_10_method_2_code
def yJx00060_init_a7421 : MethodName := ⟨RJx00060, "<init>", "(Ljava/lang/String;)V"⟩
def RJx8e188 : String := "java/lang/Cloneable"
def TJx8e188 : u_T := fun k => match k with
  | _ => ("", "", "", false)
def tyJx8e188 : Nat → FieldType := fun k => match k with
  | _ => .int
abbrev wsJx8e1880 : List Cond := u_ws RJx8e188 TJx8e188 0
theorem nmJx8e188 : ∀ a, a < 0 → ∀ b, b < 0 → a ≠ b → (TJx8e188 a).2.1 ≠ (TJx8e188 b).2.1 := by decide +kernel
theorem tyJx8e188_ok : ∀ k, k < 0 → parseFieldDescriptor (TJx8e188 k).2.2.1 = some (tyJx8e188 k) := by decide +kernel
def RJxab1ab : String := "java/lang/Iterable"
def TJxab1ab : u_T := fun k => match k with
  | _ => ("", "", "", false)
def tyJxab1ab : Nat → FieldType := fun k => match k with
  | _ => .int
abbrev wsJxab1ab0 : List Cond := u_ws RJxab1ab TJxab1ab 0
theorem nmJxab1ab : ∀ a, a < 0 → ∀ b, b < 0 → a ≠ b → (TJxab1ab a).2.1 ≠ (TJxab1ab b).2.1 := by decide +kernel
theorem tyJxab1ab_ok : ∀ k, k < 0 → parseFieldDescriptor (TJxab1ab k).2.2.1 = some (tyJxab1ab k) := by decide +kernel
def RJ9 : String := "java/lang/Math"
def TJ9 : u_T := fun k => match k with
  | _ => ("", "", "", false)
def tyJ9 : Nat → FieldType := fun k => match k with
  | _ => .int
abbrev wsJ90 : List Cond := u_ws RJ9 TJ9 0
theorem nmJ9 : ∀ a, a < 0 → ∀ b, b < 0 → a ≠ b → (TJ9 a).2.1 ≠ (TJ9 b).2.1 := by decide +kernel
theorem tyJ9_ok : ∀ k, k < 0 → parseFieldDescriptor (TJ9 k).2.2.1 = some (tyJ9 k) := by decide +kernel
abbrev cJ9_abs_0f7a4 : ByteArray := prog_17_method_59_code
def yJ9_abs_0f7a4 : MethodName := ⟨RJ9, "abs", "(I)I"⟩
abbrev cJ9_max_7cf53 : ByteArray := prog_17_method_65_code
def yJ9_max_7cf53 : MethodName := ⟨RJ9, "max", "(II)I"⟩
abbrev cJ9_min_7cf53 : ByteArray := prog_17_method_69_code
def yJ9_min_7cf53 : MethodName := ⟨RJ9, "min", "(II)I"⟩
def RJ0 : String := "java/lang/String"
def TJ0 : u_T := fun k => match k with
  | 0 => ("java/lang/String", "value", "[B", true)
  | _ => ("java/lang/String", "coder", "B", true)
def tyJ0 : Nat → FieldType := fun k => match k with
  | 0 => .array .byte
  | _ => .byte
abbrev wsJ00 : List Cond := u_ws RJ0 TJ0 2
theorem nmJ0 : ∀ a, a < 2 → ∀ b, b < 2 → a ≠ b → (TJ0 a).2.1 ≠ (TJ0 b).2.1 := by decide +kernel
theorem tyJ0_ok : ∀ k, k < 2 → parseFieldDescriptor (TJ0 k).2.2.1 = some (tyJ0 k) := by decide +kernel
def RJ10 : String := "java/lang/System"
def TJ10 : u_T := fun k => match k with
  | _ => ("", "", "", false)
def tyJ10 : Nat → FieldType := fun k => match k with
  | _ => .int
abbrev wsJ100 : List Cond := u_ws RJ10 TJ10 0
theorem nmJ10 : ∀ a, a < 0 → ∀ b, b < 0 → a ≠ b → (TJ10 a).2.1 ≠ (TJ10 b).2.1 := by decide +kernel
theorem tyJ10_ok : ∀ k, k < 0 → parseFieldDescriptor (TJ10 k).2.2.1 = some (tyJ10 k) := by decide +kernel
def RJxa1e45 : String := "java/util/AbstractCollection"
def TJxa1e45 : u_T := fun k => match k with
  | _ => ("", "", "", false)
def tyJxa1e45 : Nat → FieldType := fun k => match k with
  | _ => .int
abbrev wsJxa1e450 : List Cond := u_ws RJxa1e45 TJxa1e45 0
theorem nmJxa1e45 : ∀ a, a < 0 → ∀ b, b < 0 → a ≠ b → (TJxa1e45 a).2.1 ≠ (TJxa1e45 b).2.1 := by decide +kernel
theorem tyJxa1e45_ok : ∀ k, k < 0 → parseFieldDescriptor (TJxa1e45 k).2.2.1 = some (tyJxa1e45 k) := by decide +kernel
abbrev cJxa1e45_init_da8c8 : ByteArray := prog_23_method_1_code
def yJxa1e45_init_da8c8 : MethodName := ⟨RJxa1e45, "<init>", "()V"⟩
def RJxc12de : String := "java/util/AbstractList"
def TJxc12de : u_T := fun k => match k with
  | _ => ("", "", "", false)
def tyJxc12de : Nat → FieldType := fun k => match k with
  | _ => .int
abbrev wsJxc12de0 : List Cond := u_ws RJxc12de TJxc12de 0
theorem nmJxc12de : ∀ a, a < 0 → ∀ b, b < 0 → a ≠ b → (TJxc12de a).2.1 ≠ (TJxc12de b).2.1 := by decide +kernel
theorem tyJxc12de_ok : ∀ k, k < 0 → parseFieldDescriptor (TJxc12de k).2.2.1 = some (tyJxc12de k) := by decide +kernel
abbrev cJxc12de_init_da8c8 : ByteArray := prog_24_method_1_code
def yJxc12de_init_da8c8 : MethodName := ⟨RJxc12de, "<init>", "()V"⟩
def RJx4a65c : String := "java/util/ArrayList"
def TJx4a65c : u_T := fun k => match k with
  | 0 => ("java/util/AbstractList", "modCount", "I", false)
  | 1 => ("java/util/ArrayList", "elementData", "[Ljava/lang/Object;", false)
  | _ => ("java/util/ArrayList", "size", "I", false)
def tyJx4a65c : Nat → FieldType := fun k => match k with
  | 0 => .int
  | 1 => .array (.object "java/lang/Object")
  | _ => .int
abbrev wsJx4a65c0 : List Cond := u_ws RJx4a65c TJx4a65c 3
theorem nmJx4a65c : ∀ a, a < 3 → ∀ b, b < 3 → a ≠ b → (TJx4a65c a).2.1 ≠ (TJx4a65c b).2.1 := by decide +kernel
theorem tyJx4a65c_ok : ∀ k, k < 3 → parseFieldDescriptor (TJx4a65c k).2.2.1 = some (tyJx4a65c k) := by decide +kernel
abbrev cJx4a65c_init_da8c8 : ByteArray := prog_25_method_2_code
def yJx4a65c_init_da8c8 : MethodName := ⟨RJx4a65c, "<init>", "()V"⟩
abbrev cJx4a65c_grow_92f84 : ByteArray := prog_25_method_6_code
def yJx4a65c_grow_92f84 : MethodName := ⟨RJx4a65c, "grow", "(I)[Ljava/lang/Object;"⟩
abbrev cJx4a65c_grow_d5877 : ByteArray := prog_25_method_7_code
def yJx4a65c_grow_d5877 : MethodName := ⟨RJx4a65c, "grow", "()[Ljava/lang/Object;"⟩
abbrev cJx4a65c_size_8abf5 : ByteArray := prog_25_method_8_code
def yJx4a65c_size_8abf5 : MethodName := ⟨RJx4a65c, "size", "()I"⟩
abbrev cJx4a65c_isEmpty_aae02 : ByteArray := prog_25_method_9_code
def yJx4a65c_isEmpty_aae02 : MethodName := ⟨RJx4a65c, "isEmpty", "()Z"⟩
abbrev cJx4a65c_elementData_915e3 : ByteArray := prog_25_method_18_code
def yJx4a65c_elementData_915e3 : MethodName := ⟨RJx4a65c, "elementData", "(I)Ljava/lang/Object;"⟩
abbrev cJx4a65c_get_915e3 : ByteArray := prog_25_method_20_code
def yJx4a65c_get_915e3 : MethodName := ⟨RJx4a65c, "get", "(I)Ljava/lang/Object;"⟩
abbrev cJx4a65c_add_72be8 : ByteArray := prog_25_method_24_code
def yJx4a65c_add_72be8 : MethodName := ⟨RJx4a65c, "add", "(Ljava/lang/Object;[Ljava/lang/Object;I)V"⟩
abbrev cJx4a65c_add_9ea2d : ByteArray := prog_25_method_25_code
def yJx4a65c_add_9ea2d : MethodName := ⟨RJx4a65c, "add", "(Ljava/lang/Object;)Z"⟩
abbrev cJx4a65c_remove_915e3 : ByteArray := prog_25_method_29_code
def yJx4a65c_remove_915e3 : MethodName := ⟨RJx4a65c, "remove", "(I)Ljava/lang/Object;"⟩
abbrev cJx4a65c_fastRemove_b59b0 : ByteArray := prog_25_method_39_code
def yJx4a65c_fastRemove_b59b0 : MethodName := ⟨RJx4a65c, "fastRemove", "([Ljava/lang/Object;I)V"⟩
def RJ7 : String := "java/util/Arrays"
def TJ7 : u_T := fun k => match k with
  | _ => ("", "", "", false)
def tyJ7 : Nat → FieldType := fun k => match k with
  | _ => .int
abbrev wsJ70 : List Cond := u_ws RJ7 TJ7 0
theorem nmJ7 : ∀ a, a < 0 → ∀ b, b < 0 → a ≠ b → (TJ7 a).2.1 ≠ (TJ7 b).2.1 := by decide +kernel
theorem tyJ7_ok : ∀ k, k < 0 → parseFieldDescriptor (TJ7 k).2.2.1 = some (tyJ7 k) := by decide +kernel
abbrev cJ7_copyOf_1904c : ByteArray := prog_26_method_119_code
def yJ7_copyOf_1904c : MethodName := ⟨RJ7, "copyOf", "([Ljava/lang/Object;I)[Ljava/lang/Object;"⟩
abbrev cJ7_copyOf_6403c : ByteArray := prog_26_method_120_code
def yJ7_copyOf_6403c : MethodName := ⟨RJ7, "copyOf", "([Ljava/lang/Object;ILjava/lang/Class;)[Ljava/lang/Object;"⟩
def RJx5ef63 : String := "java/util/Collection"
def TJx5ef63 : u_T := fun k => match k with
  | _ => ("", "", "", false)
def tyJx5ef63 : Nat → FieldType := fun k => match k with
  | _ => .int
abbrev wsJx5ef630 : List Cond := u_ws RJx5ef63 TJx5ef63 0
theorem nmJx5ef63 : ∀ a, a < 0 → ∀ b, b < 0 → a ≠ b → (TJx5ef63 a).2.1 ≠ (TJx5ef63 b).2.1 := by decide +kernel
theorem tyJx5ef63_ok : ∀ k, k < 0 → parseFieldDescriptor (TJx5ef63 k).2.2.1 = some (tyJx5ef63 k) := by decide +kernel
def RJxbd725 : String := "java/util/List"
def TJxbd725 : u_T := fun k => match k with
  | _ => ("", "", "", false)
def tyJxbd725 : Nat → FieldType := fun k => match k with
  | _ => .int
abbrev wsJxbd7250 : List Cond := u_ws RJxbd725 TJxbd725 0
theorem nmJxbd725 : ∀ a, a < 0 → ∀ b, b < 0 → a ≠ b → (TJxbd725 a).2.1 ≠ (TJxbd725 b).2.1 := by decide +kernel
theorem tyJxbd725_ok : ∀ k, k < 0 → parseFieldDescriptor (TJxbd725 k).2.2.1 = some (tyJxbd725 k) := by decide +kernel
def RJ15 : String := "java/util/Objects"
def TJ15 : u_T := fun k => match k with
  | _ => ("", "", "", false)
def tyJ15 : Nat → FieldType := fun k => match k with
  | _ => .int
abbrev wsJ150 : List Cond := u_ws RJ15 TJ15 0
theorem nmJ15 : ∀ a, a < 0 → ∀ b, b < 0 → a ≠ b → (TJ15 a).2.1 ≠ (TJ15 b).2.1 := by decide +kernel
theorem tyJ15_ok : ∀ k, k < 0 → parseFieldDescriptor (TJ15 k).2.2.1 = some (tyJ15 k) := by decide +kernel
abbrev cJ15_checkIndex_7cf53 : ByteArray := prog_30_method_17_code
def yJ15_checkIndex_7cf53 : MethodName := ⟨RJ15, "checkIndex", "(II)I"⟩
def RJxf0a74 : String := "java/util/RandomAccess"
def TJxf0a74 : u_T := fun k => match k with
  | _ => ("", "", "", false)
def tyJxf0a74 : Nat → FieldType := fun k => match k with
  | _ => .int
abbrev wsJxf0a740 : List Cond := u_ws RJxf0a74 TJxf0a74 0
theorem nmJxf0a74 : ∀ a, a < 0 → ∀ b, b < 0 → a ≠ b → (TJxf0a74 a).2.1 ≠ (TJxf0a74 b).2.1 := by decide +kernel
theorem tyJxf0a74_ok : ∀ k, k < 0 → parseFieldDescriptor (TJxf0a74 k).2.2.1 = some (tyJxf0a74 k) := by decide +kernel
def RJxa66e6 : String := "java/util/SequencedCollection"
def TJxa66e6 : u_T := fun k => match k with
  | _ => ("", "", "", false)
def tyJxa66e6 : Nat → FieldType := fun k => match k with
  | _ => .int
abbrev wsJxa66e60 : List Cond := u_ws RJxa66e6 TJxa66e6 0
theorem nmJxa66e6 : ∀ a, a < 0 → ∀ b, b < 0 → a ≠ b → (TJxa66e6 a).2.1 ≠ (TJxa66e6 b).2.1 := by decide +kernel
theorem tyJxa66e6_ok : ∀ k, k < 0 → parseFieldDescriptor (TJxa66e6 k).2.2.1 = some (tyJxa66e6 k) := by decide +kernel
def RJ8 : String := "jdk/internal/util/ArraysSupport"
def TJ8 : u_T := fun k => match k with
  | _ => ("", "", "", false)
def tyJ8 : Nat → FieldType := fun k => match k with
  | _ => .int
abbrev wsJ80 : List Cond := u_ws RJ8 TJ8 0
theorem nmJ8 : ∀ a, a < 0 → ∀ b, b < 0 → a ≠ b → (TJ8 a).2.1 ≠ (TJ8 b).2.1 := by decide +kernel
theorem tyJ8_ok : ∀ k, k < 0 → parseFieldDescriptor (TJ8 k).2.2.1 = some (tyJ8 k) := by decide +kernel
abbrev cJ8_newLength_cabcc : ByteArray := prog_33_method_27_code
def yJ8_newLength_cabcc : MethodName := ⟨RJ8, "newLength", "(III)I"⟩
abbrev cJ8_hugeLength_7cf53 : ByteArray := prog_33_method_28_code
def yJ8_hugeLength_7cf53 : MethodName := ⟨RJ8, "hugeLength", "(II)I"⟩
def RJ3 : String := "jdk/internal/util/Preconditions"
def TJ3 : u_T := fun k => match k with
  | _ => ("", "", "", false)
def tyJ3 : Nat → FieldType := fun k => match k with
  | _ => .int
abbrev wsJ30 : List Cond := u_ws RJ3 TJ3 0
theorem nmJ3 : ∀ a, a < 0 → ∀ b, b < 0 → a ≠ b → (TJ3 a).2.1 ≠ (TJ3 b).2.1 := by decide +kernel
theorem tyJ3_ok : ∀ k, k < 0 → parseFieldDescriptor (TJ3 k).2.2.1 = some (tyJ3 k) := by decide +kernel
abbrev cJ3_checkIndex_8e157 : ByteArray := prog_34_method_11_code
def yJ3_checkIndex_8e157 : MethodName := ⟨RJ3, "checkIndex", "(IILjava/util/function/BiFunction;)I"⟩
def RL : String := "LiftDeskLaw"
abbrev cL_addLift : ByteArray := method_3_code
def yL_addLift : MethodName := ⟨RL, "addLift", "(LLiftDesk;I[J)I"⟩
abbrev cL_setTenant : ByteArray := method_4_code
def yL_setTenant : MethodName := ⟨RL, "setTenant", "(LLiftDesk;II[J)I"⟩
abbrev cL_setHours : ByteArray := method_5_code
def yL_setHours : MethodName := ⟨RL, "setHours", "(LLiftDesk;III[J)I"⟩
abbrev cL_addBadge : ByteArray := method_6_code
def yL_addBadge : MethodName := ⟨RL, "addBadge", "(LLiftDesk;I[J)I"⟩
abbrev cL_setRevoked : ByteArray := method_7_code
def yL_setRevoked : MethodName := ⟨RL, "setRevoked", "(LLiftDesk;IZ[J)I"⟩
abbrev cL_reason : ByteArray := method_8_code
def yL_reason : MethodName := ⟨RL, "reason", "(LLiftDesk;II[J)I"⟩
abbrev cL_call : ByteArray := method_9_code
def yL_call : MethodName := ⟨RL, "call", "(LLiftDesk;III[J)I"⟩
abbrev cL_state : ByteArray := method_10_code
def yL_state : MethodName := ⟨RL, "state", "(LLiftDesk;I[J)I"⟩
abbrev cL_floorOf : ByteArray := method_11_code
def yL_floorOf : MethodName := ⟨RL, "floorOf", "(LLiftDesk;I[J)I"⟩
abbrev cL_aim : ByteArray := method_12_code
def yL_aim : MethodName := ⟨RL, "aim", "(LLiftDesk;I[J)I"⟩
abbrev cL_liftOf : ByteArray := method_13_code
def yL_liftOf : MethodName := ⟨RL, "liftOf", "(LLiftDesk;I[J)I"⟩
abbrev cL_waited : ByteArray := method_14_code
def yL_waited : MethodName := ⟨RL, "waited", "(LLiftDesk;I[J)I"⟩
abbrev cL_waitedByLog : ByteArray := method_15_code
def yL_waitedByLog : MethodName := ⟨RL, "waitedByLog", "(LLiftDesk;I[J)I"⟩
abbrev cL_callOff : ByteArray := method_16_code
def yL_callOff : MethodName := ⟨RL, "callOff", "(LLiftDesk;I[J)I"⟩
abbrev cL_service : ByteArray := method_17_code
def yL_service : MethodName := ⟨RL, "service", "(LLiftDesk;I[J)I"⟩
abbrev cL_floorOfLift : ByteArray := method_18_code
def yL_floorOfLift : MethodName := ⟨RL, "floorOfLift", "(LLiftDesk;I[J)I"⟩
abbrev cL_isUp : ByteArray := method_19_code
def yL_isUp : MethodName := ⟨RL, "isUp", "(LLiftDesk;I[J)I"⟩
abbrev cL_aboard : ByteArray := method_20_code
def yL_aboard : MethodName := ⟨RL, "aboard", "(LLiftDesk;I[J)I"⟩
abbrev cL_score : ByteArray := method_21_code
def yL_score : MethodName := ⟨RL, "score", "(LLiftDesk;II[J)I"⟩
abbrev cL_pass : ByteArray := method_22_code
def yL_pass : MethodName := ⟨RL, "pass", "(LLiftDesk;I[J)I"⟩
abbrev cL_alarm : ByteArray := method_23_code
def yL_alarm : MethodName := ⟨RL, "alarm", "(LLiftDesk;I[J)I"⟩
abbrev cL_turn : ByteArray := method_24_code
def yL_turn : MethodName := ⟨RL, "turn", "(LLiftDesk;[J)I"⟩
abbrev cL_doneShare : ByteArray := method_25_code
def yL_doneShare : MethodName := ⟨RL, "doneShare", "(LLiftDesk;[D)I"⟩
abbrev cL_meanWait : ByteArray := method_26_code
def yL_meanWait : MethodName := ⟨RL, "meanWait", "(LLiftDesk;[D)I"⟩
abbrev cL_law : ByteArray := code
def yL_law : MethodName := ⟨RL, "law", "([I)Z"⟩
abbrev vwCl : List vw_C := [(RJ0, TJ0, 2), (RJx00060, TJx00060, 6), (RJx4a65c, TJx4a65c, 3), (RX0, TX0, 2), (RX1, TX1, 3), (RX2, TX2, 6), (RX3, TX3, 7), (RX4, TX4, 12), (RX5, TX5, 28)]
end
section
theorem dJx00060_init_a7421_0 : decode cJx00060_init_a7421 0 = .ok (.aload_n 0, 1) := by decide +kernel
theorem dJx00060_init_a7421_1 : decode cJx00060_init_a7421 1 = .ok (.aload_n 1, 1) := by decide +kernel
theorem dJx00060_init_a7421_2 : decode cJx00060_init_a7421 2 = .ok (.invokespecial 7, 3) := by decide +kernel
theorem dJx00060_init_a7421_5 : decode cJx00060_init_a7421 5 = .ok (.return_, 1) := by decide +kernel
theorem dJ9_abs_0f7a4_0 : decode cJ9_abs_0f7a4 0 = .ok (.iload_n 0, 1) := by decide +kernel
theorem dJ9_abs_0f7a4_1 : decode cJ9_abs_0f7a4 1 = .ok (.ifCond .ge 8, 3) := by decide +kernel
theorem dJ9_abs_0f7a4_4 : decode cJ9_abs_0f7a4 4 = .ok (.iload_n 0, 1) := by decide +kernel
theorem dJ9_abs_0f7a4_5 : decode cJ9_abs_0f7a4 5 = .ok (.ineg, 1) := by decide +kernel
theorem dJ9_abs_0f7a4_6 : decode cJ9_abs_0f7a4 6 = .ok (.goto 4, 3) := by decide +kernel
theorem dJ9_abs_0f7a4_9 : decode cJ9_abs_0f7a4 9 = .ok (.iload_n 0, 1) := by decide +kernel
theorem dJ9_abs_0f7a4_10 : decode cJ9_abs_0f7a4 10 = .ok (.ireturn, 1) := by decide +kernel
theorem dJ9_max_7cf53_0 : decode cJ9_max_7cf53 0 = .ok (.iload_n 0, 1) := by decide +kernel
theorem dJ9_max_7cf53_1 : decode cJ9_max_7cf53 1 = .ok (.iload_n 1, 1) := by decide +kernel
theorem dJ9_max_7cf53_2 : decode cJ9_max_7cf53 2 = .ok (.if_icmp .lt 7, 3) := by decide +kernel
theorem dJ9_max_7cf53_5 : decode cJ9_max_7cf53 5 = .ok (.iload_n 0, 1) := by decide +kernel
theorem dJ9_max_7cf53_6 : decode cJ9_max_7cf53 6 = .ok (.goto 4, 3) := by decide +kernel
theorem dJ9_max_7cf53_9 : decode cJ9_max_7cf53 9 = .ok (.iload_n 1, 1) := by decide +kernel
theorem dJ9_max_7cf53_10 : decode cJ9_max_7cf53 10 = .ok (.ireturn, 1) := by decide +kernel
theorem dJ9_min_7cf53_0 : decode cJ9_min_7cf53 0 = .ok (.iload_n 0, 1) := by decide +kernel
theorem dJ9_min_7cf53_1 : decode cJ9_min_7cf53 1 = .ok (.iload_n 1, 1) := by decide +kernel
theorem dJ9_min_7cf53_2 : decode cJ9_min_7cf53 2 = .ok (.if_icmp .gt 7, 3) := by decide +kernel
theorem dJ9_min_7cf53_5 : decode cJ9_min_7cf53 5 = .ok (.iload_n 0, 1) := by decide +kernel
theorem dJ9_min_7cf53_6 : decode cJ9_min_7cf53 6 = .ok (.goto 4, 3) := by decide +kernel
theorem dJ9_min_7cf53_9 : decode cJ9_min_7cf53 9 = .ok (.iload_n 1, 1) := by decide +kernel
theorem dJ9_min_7cf53_10 : decode cJ9_min_7cf53 10 = .ok (.ireturn, 1) := by decide +kernel
theorem dJxa1e45_init_da8c8_0 : decode cJxa1e45_init_da8c8 0 = .ok (.aload_n 0, 1) := by decide +kernel
theorem dJxa1e45_init_da8c8_1 : decode cJxa1e45_init_da8c8 1 = .ok (.invokespecial 1, 3) := by decide +kernel
theorem dJxa1e45_init_da8c8_4 : decode cJxa1e45_init_da8c8 4 = .ok (.return_, 1) := by decide +kernel
theorem dJxc12de_init_da8c8_0 : decode cJxc12de_init_da8c8 0 = .ok (.aload_n 0, 1) := by decide +kernel
theorem dJxc12de_init_da8c8_1 : decode cJxc12de_init_da8c8 1 = .ok (.invokespecial 1, 3) := by decide +kernel
theorem dJxc12de_init_da8c8_4 : decode cJxc12de_init_da8c8 4 = .ok (.aload_n 0, 1) := by decide +kernel
theorem dJxc12de_init_da8c8_5 : decode cJxc12de_init_da8c8 5 = .ok (.iconst 0, 1) := by decide +kernel
theorem dJxc12de_init_da8c8_6 : decode cJxc12de_init_da8c8 6 = .ok (.putfield 7, 3) := by decide +kernel
theorem dJxc12de_init_da8c8_9 : decode cJxc12de_init_da8c8 9 = .ok (.return_, 1) := by decide +kernel
theorem dJx4a65c_init_da8c8_0 : decode cJx4a65c_init_da8c8 0 = .ok (.aload_n 0, 1) := by decide +kernel
theorem dJx4a65c_init_da8c8_1 : decode cJx4a65c_init_da8c8 1 = .ok (.invokespecial 1, 3) := by decide +kernel
theorem dJx4a65c_init_da8c8_4 : decode cJx4a65c_init_da8c8 4 = .ok (.aload_n 0, 1) := by decide +kernel
theorem dJx4a65c_init_da8c8_5 : decode cJx4a65c_init_da8c8 5 = .ok (.getstatic 39, 3) := by decide +kernel
theorem dJx4a65c_init_da8c8_8 : decode cJx4a65c_init_da8c8 8 = .ok (.putfield 9, 3) := by decide +kernel
theorem dJx4a65c_init_da8c8_11 : decode cJx4a65c_init_da8c8 11 = .ok (.return_, 1) := by decide +kernel
theorem dJx4a65c_grow_92f84_0 : decode cJx4a65c_grow_92f84 0 = .ok (.aload_n 0, 1) := by decide +kernel
theorem dJx4a65c_grow_92f84_1 : decode cJx4a65c_grow_92f84 1 = .ok (.getfield 9, 3) := by decide +kernel
theorem dJx4a65c_grow_92f84_4 : decode cJx4a65c_grow_92f84 4 = .ok (.arraylength, 1) := by decide +kernel
theorem dJx4a65c_grow_92f84_5 : decode cJx4a65c_grow_92f84 5 = .ok (.istore_n 2, 1) := by decide +kernel
theorem dJx4a65c_grow_92f84_6 : decode cJx4a65c_grow_92f84 6 = .ok (.iload_n 2, 1) := by decide +kernel
theorem dJx4a65c_grow_92f84_7 : decode cJx4a65c_grow_92f84 7 = .ok (.ifCond .gt 13, 3) := by decide +kernel
theorem dJx4a65c_grow_92f84_10 : decode cJx4a65c_grow_92f84 10 = .ok (.aload_n 0, 1) := by decide +kernel
theorem dJx4a65c_grow_92f84_11 : decode cJx4a65c_grow_92f84 11 = .ok (.getfield 9, 3) := by decide +kernel
theorem dJx4a65c_grow_92f84_14 : decode cJx4a65c_grow_92f84 14 = .ok (.getstatic 39, 3) := by decide +kernel
theorem dJx4a65c_grow_92f84_17 : decode cJx4a65c_grow_92f84 17 = .ok (.if_acmp .eq 28, 3) := by decide +kernel
theorem dJx4a65c_grow_92f84_20 : decode cJx4a65c_grow_92f84 20 = .ok (.iload_n 2, 1) := by decide +kernel
theorem dJx4a65c_grow_92f84_21 : decode cJx4a65c_grow_92f84 21 = .ok (.iload_n 1, 1) := by decide +kernel
theorem dJx4a65c_grow_92f84_22 : decode cJx4a65c_grow_92f84 22 = .ok (.iload_n 2, 1) := by decide +kernel
theorem dJx4a65c_grow_92f84_23 : decode cJx4a65c_grow_92f84 23 = .ok (.isub, 1) := by decide +kernel
theorem dJx4a65c_grow_92f84_24 : decode cJx4a65c_grow_92f84 24 = .ok (.iload_n 2, 1) := by decide +kernel
theorem dJx4a65c_grow_92f84_25 : decode cJx4a65c_grow_92f84 25 = .ok (.iconst 1, 1) := by decide +kernel
theorem dJx4a65c_grow_92f84_26 : decode cJx4a65c_grow_92f84 26 = .ok (.ishr, 1) := by decide +kernel
theorem dJx4a65c_grow_92f84_27 : decode cJx4a65c_grow_92f84 27 = .ok (.invokestatic 73, 3) := by decide +kernel
theorem dJx4a65c_grow_92f84_30 : decode cJx4a65c_grow_92f84 30 = .ok (.istore_n 3, 1) := by decide +kernel
theorem dJx4a65c_grow_92f84_31 : decode cJx4a65c_grow_92f84 31 = .ok (.aload_n 0, 1) := by decide +kernel
theorem dJx4a65c_grow_92f84_32 : decode cJx4a65c_grow_92f84 32 = .ok (.aload_n 0, 1) := by decide +kernel
theorem dJx4a65c_grow_92f84_33 : decode cJx4a65c_grow_92f84 33 = .ok (.getfield 9, 3) := by decide +kernel
theorem dJx4a65c_grow_92f84_36 : decode cJx4a65c_grow_92f84 36 = .ok (.iload_n 3, 1) := by decide +kernel
theorem dJx4a65c_grow_92f84_37 : decode cJx4a65c_grow_92f84 37 = .ok (.invokestatic 66, 3) := by decide +kernel
theorem dJx4a65c_grow_92f84_40 : decode cJx4a65c_grow_92f84 40 = .ok (.dup_x1, 1) := by decide +kernel
theorem dJx4a65c_grow_92f84_41 : decode cJx4a65c_grow_92f84 41 = .ok (.putfield 9, 3) := by decide +kernel
theorem dJx4a65c_grow_92f84_44 : decode cJx4a65c_grow_92f84 44 = .ok (.areturn, 1) := by decide +kernel
theorem dJx4a65c_grow_92f84_45 : decode cJx4a65c_grow_92f84 45 = .ok (.aload_n 0, 1) := by decide +kernel
theorem dJx4a65c_grow_92f84_46 : decode cJx4a65c_grow_92f84 46 = .ok (.bipush 10, 2) := by decide +kernel
theorem dJx4a65c_grow_92f84_48 : decode cJx4a65c_grow_92f84 48 = .ok (.iload_n 1, 1) := by decide +kernel
theorem dJx4a65c_grow_92f84_49 : decode cJx4a65c_grow_92f84 49 = .ok (.invokestatic 79, 3) := by decide +kernel
theorem dJx4a65c_grow_92f84_52 : decode cJx4a65c_grow_92f84 52 = .ok (.anewarray 7, 3) := by decide +kernel
theorem dJx4a65c_grow_92f84_55 : decode cJx4a65c_grow_92f84 55 = .ok (.dup_x1, 1) := by decide +kernel
theorem dJx4a65c_grow_92f84_56 : decode cJx4a65c_grow_92f84 56 = .ok (.putfield 9, 3) := by decide +kernel
theorem dJx4a65c_grow_92f84_59 : decode cJx4a65c_grow_92f84 59 = .ok (.areturn, 1) := by decide +kernel
theorem dJx4a65c_grow_d5877_0 : decode cJx4a65c_grow_d5877 0 = .ok (.aload_n 0, 1) := by decide +kernel
theorem dJx4a65c_grow_d5877_1 : decode cJx4a65c_grow_d5877 1 = .ok (.aload_n 0, 1) := by decide +kernel
theorem dJx4a65c_grow_d5877_2 : decode cJx4a65c_grow_d5877 2 = .ok (.getfield 48, 3) := by decide +kernel
theorem dJx4a65c_grow_d5877_5 : decode cJx4a65c_grow_d5877 5 = .ok (.iconst 1, 1) := by decide +kernel
theorem dJx4a65c_grow_d5877_6 : decode cJx4a65c_grow_d5877 6 = .ok (.iadd, 1) := by decide +kernel
theorem dJx4a65c_grow_d5877_7 : decode cJx4a65c_grow_d5877 7 = .ok (.invokevirtual 69, 3) := by decide +kernel
theorem dJx4a65c_grow_d5877_10 : decode cJx4a65c_grow_d5877 10 = .ok (.areturn, 1) := by decide +kernel
theorem dJx4a65c_size_8abf5_0 : decode cJx4a65c_size_8abf5 0 = .ok (.aload_n 0, 1) := by decide +kernel
theorem dJx4a65c_size_8abf5_1 : decode cJx4a65c_size_8abf5 1 = .ok (.getfield 48, 3) := by decide +kernel
theorem dJx4a65c_size_8abf5_4 : decode cJx4a65c_size_8abf5 4 = .ok (.ireturn, 1) := by decide +kernel
theorem dJx4a65c_isEmpty_aae02_0 : decode cJx4a65c_isEmpty_aae02 0 = .ok (.aload_n 0, 1) := by decide +kernel
theorem dJx4a65c_isEmpty_aae02_1 : decode cJx4a65c_isEmpty_aae02 1 = .ok (.getfield 48, 3) := by decide +kernel
theorem dJx4a65c_isEmpty_aae02_4 : decode cJx4a65c_isEmpty_aae02 4 = .ok (.ifCond .ne 7, 3) := by decide +kernel
theorem dJx4a65c_isEmpty_aae02_7 : decode cJx4a65c_isEmpty_aae02 7 = .ok (.iconst 1, 1) := by decide +kernel
theorem dJx4a65c_isEmpty_aae02_8 : decode cJx4a65c_isEmpty_aae02 8 = .ok (.goto 4, 3) := by decide +kernel
theorem dJx4a65c_isEmpty_aae02_11 : decode cJx4a65c_isEmpty_aae02 11 = .ok (.iconst 0, 1) := by decide +kernel
theorem dJx4a65c_isEmpty_aae02_12 : decode cJx4a65c_isEmpty_aae02 12 = .ok (.ireturn, 1) := by decide +kernel
theorem dJx4a65c_elementData_915e3_0 : decode cJx4a65c_elementData_915e3 0 = .ok (.aload_n 0, 1) := by decide +kernel
theorem dJx4a65c_elementData_915e3_1 : decode cJx4a65c_elementData_915e3 1 = .ok (.getfield 9, 3) := by decide +kernel
theorem dJx4a65c_elementData_915e3_4 : decode cJx4a65c_elementData_915e3 4 = .ok (.iload_n 1, 1) := by decide +kernel
theorem dJx4a65c_elementData_915e3_5 : decode cJx4a65c_elementData_915e3 5 = .ok (.aaload, 1) := by decide +kernel
theorem dJx4a65c_elementData_915e3_6 : decode cJx4a65c_elementData_915e3 6 = .ok (.areturn, 1) := by decide +kernel
theorem dJx4a65c_get_915e3_0 : decode cJx4a65c_get_915e3 0 = .ok (.iload_n 1, 1) := by decide +kernel
theorem dJx4a65c_get_915e3_1 : decode cJx4a65c_get_915e3 1 = .ok (.aload_n 0, 1) := by decide +kernel
theorem dJx4a65c_get_915e3_2 : decode cJx4a65c_get_915e3 2 = .ok (.getfield 48, 3) := by decide +kernel
theorem dJx4a65c_get_915e3_5 : decode cJx4a65c_get_915e3 5 = .ok (.invokestatic 118, 3) := by decide +kernel
theorem dJx4a65c_get_915e3_8 : decode cJx4a65c_get_915e3 8 = .ok (.pop, 1) := by decide +kernel
theorem dJx4a65c_get_915e3_9 : decode cJx4a65c_get_915e3 9 = .ok (.aload_n 0, 1) := by decide +kernel
theorem dJx4a65c_get_915e3_10 : decode cJx4a65c_get_915e3 10 = .ok (.iload_n 1, 1) := by decide +kernel
theorem dJx4a65c_get_915e3_11 : decode cJx4a65c_get_915e3 11 = .ok (.invokevirtual 123, 3) := by decide +kernel
theorem dJx4a65c_get_915e3_14 : decode cJx4a65c_get_915e3 14 = .ok (.areturn, 1) := by decide +kernel
theorem dJx4a65c_add_72be8_0 : decode cJx4a65c_add_72be8 0 = .ok (.iload_n 3, 1) := by decide +kernel
theorem dJx4a65c_add_72be8_1 : decode cJx4a65c_add_72be8 1 = .ok (.aload_n 2, 1) := by decide +kernel
theorem dJx4a65c_add_72be8_2 : decode cJx4a65c_add_72be8 2 = .ok (.arraylength, 1) := by decide +kernel
theorem dJx4a65c_add_72be8_3 : decode cJx4a65c_add_72be8 3 = .ok (.if_icmp .ne 8, 3) := by decide +kernel
theorem dJx4a65c_add_72be8_6 : decode cJx4a65c_add_72be8 6 = .ok (.aload_n 0, 1) := by decide +kernel
theorem dJx4a65c_add_72be8_7 : decode cJx4a65c_add_72be8 7 = .ok (.invokevirtual 129, 3) := by decide +kernel
theorem dJx4a65c_add_72be8_10 : decode cJx4a65c_add_72be8 10 = .ok (.astore_n 2, 1) := by decide +kernel
theorem dJx4a65c_add_72be8_11 : decode cJx4a65c_add_72be8 11 = .ok (.aload_n 2, 1) := by decide +kernel
theorem dJx4a65c_add_72be8_12 : decode cJx4a65c_add_72be8 12 = .ok (.iload_n 3, 1) := by decide +kernel
theorem dJx4a65c_add_72be8_13 : decode cJx4a65c_add_72be8 13 = .ok (.aload_n 1, 1) := by decide +kernel
theorem dJx4a65c_add_72be8_14 : decode cJx4a65c_add_72be8 14 = .ok (.aastore, 1) := by decide +kernel
theorem dJx4a65c_add_72be8_15 : decode cJx4a65c_add_72be8 15 = .ok (.aload_n 0, 1) := by decide +kernel
theorem dJx4a65c_add_72be8_16 : decode cJx4a65c_add_72be8 16 = .ok (.iload_n 3, 1) := by decide +kernel
theorem dJx4a65c_add_72be8_17 : decode cJx4a65c_add_72be8 17 = .ok (.iconst 1, 1) := by decide +kernel
theorem dJx4a65c_add_72be8_18 : decode cJx4a65c_add_72be8 18 = .ok (.iadd, 1) := by decide +kernel
theorem dJx4a65c_add_72be8_19 : decode cJx4a65c_add_72be8 19 = .ok (.putfield 48, 3) := by decide +kernel
theorem dJx4a65c_add_72be8_22 : decode cJx4a65c_add_72be8 22 = .ok (.return_, 1) := by decide +kernel
theorem dJx4a65c_add_9ea2d_0 : decode cJx4a65c_add_9ea2d 0 = .ok (.aload_n 0, 1) := by decide +kernel
theorem dJx4a65c_add_9ea2d_1 : decode cJx4a65c_add_9ea2d 1 = .ok (.dup, 1) := by decide +kernel
theorem dJx4a65c_add_9ea2d_2 : decode cJx4a65c_add_9ea2d 2 = .ok (.getfield 63, 3) := by decide +kernel
theorem dJx4a65c_add_9ea2d_5 : decode cJx4a65c_add_9ea2d 5 = .ok (.iconst 1, 1) := by decide +kernel
theorem dJx4a65c_add_9ea2d_6 : decode cJx4a65c_add_9ea2d 6 = .ok (.iadd, 1) := by decide +kernel
theorem dJx4a65c_add_9ea2d_7 : decode cJx4a65c_add_9ea2d 7 = .ok (.putfield 63, 3) := by decide +kernel
theorem dJx4a65c_add_9ea2d_10 : decode cJx4a65c_add_9ea2d 10 = .ok (.aload_n 0, 1) := by decide +kernel
theorem dJx4a65c_add_9ea2d_11 : decode cJx4a65c_add_9ea2d 11 = .ok (.aload_n 1, 1) := by decide +kernel
theorem dJx4a65c_add_9ea2d_12 : decode cJx4a65c_add_9ea2d 12 = .ok (.aload_n 0, 1) := by decide +kernel
theorem dJx4a65c_add_9ea2d_13 : decode cJx4a65c_add_9ea2d 13 = .ok (.getfield 9, 3) := by decide +kernel
theorem dJx4a65c_add_9ea2d_16 : decode cJx4a65c_add_9ea2d 16 = .ok (.aload_n 0, 1) := by decide +kernel
theorem dJx4a65c_add_9ea2d_17 : decode cJx4a65c_add_9ea2d 17 = .ok (.getfield 48, 3) := by decide +kernel
theorem dJx4a65c_add_9ea2d_20 : decode cJx4a65c_add_9ea2d 20 = .ok (.invokevirtual 131, 3) := by decide +kernel
theorem dJx4a65c_add_9ea2d_23 : decode cJx4a65c_add_9ea2d 23 = .ok (.iconst 1, 1) := by decide +kernel
theorem dJx4a65c_add_9ea2d_24 : decode cJx4a65c_add_9ea2d 24 = .ok (.ireturn, 1) := by decide +kernel
theorem dJx4a65c_remove_915e3_0 : decode cJx4a65c_remove_915e3 0 = .ok (.iload_n 1, 1) := by decide +kernel
theorem dJx4a65c_remove_915e3_1 : decode cJx4a65c_remove_915e3 1 = .ok (.aload_n 0, 1) := by decide +kernel
theorem dJx4a65c_remove_915e3_2 : decode cJx4a65c_remove_915e3 2 = .ok (.getfield 48, 3) := by decide +kernel
theorem dJx4a65c_remove_915e3_5 : decode cJx4a65c_remove_915e3 5 = .ok (.invokestatic 118, 3) := by decide +kernel
theorem dJx4a65c_remove_915e3_8 : decode cJx4a65c_remove_915e3 8 = .ok (.pop, 1) := by decide +kernel
theorem dJx4a65c_remove_915e3_9 : decode cJx4a65c_remove_915e3 9 = .ok (.aload_n 0, 1) := by decide +kernel
theorem dJx4a65c_remove_915e3_10 : decode cJx4a65c_remove_915e3 10 = .ok (.getfield 9, 3) := by decide +kernel
theorem dJx4a65c_remove_915e3_13 : decode cJx4a65c_remove_915e3 13 = .ok (.astore_n 2, 1) := by decide +kernel
theorem dJx4a65c_remove_915e3_14 : decode cJx4a65c_remove_915e3 14 = .ok (.aload_n 2, 1) := by decide +kernel
theorem dJx4a65c_remove_915e3_15 : decode cJx4a65c_remove_915e3 15 = .ok (.iload_n 1, 1) := by decide +kernel
theorem dJx4a65c_remove_915e3_16 : decode cJx4a65c_remove_915e3 16 = .ok (.aaload, 1) := by decide +kernel
theorem dJx4a65c_remove_915e3_17 : decode cJx4a65c_remove_915e3 17 = .ok (.astore_n 3, 1) := by decide +kernel
theorem dJx4a65c_remove_915e3_18 : decode cJx4a65c_remove_915e3 18 = .ok (.aload_n 0, 1) := by decide +kernel
theorem dJx4a65c_remove_915e3_19 : decode cJx4a65c_remove_915e3 19 = .ok (.aload_n 2, 1) := by decide +kernel
theorem dJx4a65c_remove_915e3_20 : decode cJx4a65c_remove_915e3 20 = .ok (.iload_n 1, 1) := by decide +kernel
theorem dJx4a65c_remove_915e3_21 : decode cJx4a65c_remove_915e3 21 = .ok (.invokevirtual 144, 3) := by decide +kernel
theorem dJx4a65c_remove_915e3_24 : decode cJx4a65c_remove_915e3 24 = .ok (.aload_n 3, 1) := by decide +kernel
theorem dJx4a65c_remove_915e3_25 : decode cJx4a65c_remove_915e3 25 = .ok (.areturn, 1) := by decide +kernel
theorem dJx4a65c_fastRemove_b59b0_0 : decode cJx4a65c_fastRemove_b59b0 0 = .ok (.aload_n 0, 1) := by decide +kernel
theorem dJx4a65c_fastRemove_b59b0_1 : decode cJx4a65c_fastRemove_b59b0 1 = .ok (.dup, 1) := by decide +kernel
theorem dJx4a65c_fastRemove_b59b0_2 : decode cJx4a65c_fastRemove_b59b0 2 = .ok (.getfield 63, 3) := by decide +kernel
theorem dJx4a65c_fastRemove_b59b0_5 : decode cJx4a65c_fastRemove_b59b0 5 = .ok (.iconst 1, 1) := by decide +kernel
theorem dJx4a65c_fastRemove_b59b0_6 : decode cJx4a65c_fastRemove_b59b0 6 = .ok (.iadd, 1) := by decide +kernel
theorem dJx4a65c_fastRemove_b59b0_7 : decode cJx4a65c_fastRemove_b59b0 7 = .ok (.putfield 63, 3) := by decide +kernel
theorem dJx4a65c_fastRemove_b59b0_10 : decode cJx4a65c_fastRemove_b59b0 10 = .ok (.aload_n 0, 1) := by decide +kernel
theorem dJx4a65c_fastRemove_b59b0_11 : decode cJx4a65c_fastRemove_b59b0 11 = .ok (.getfield 48, 3) := by decide +kernel
theorem dJx4a65c_fastRemove_b59b0_14 : decode cJx4a65c_fastRemove_b59b0 14 = .ok (.iconst 1, 1) := by decide +kernel
theorem dJx4a65c_fastRemove_b59b0_15 : decode cJx4a65c_fastRemove_b59b0 15 = .ok (.isub, 1) := by decide +kernel
theorem dJx4a65c_fastRemove_b59b0_16 : decode cJx4a65c_fastRemove_b59b0 16 = .ok (.dup, 1) := by decide +kernel
theorem dJx4a65c_fastRemove_b59b0_17 : decode cJx4a65c_fastRemove_b59b0 17 = .ok (.istore_n 3, 1) := by decide +kernel
theorem dJx4a65c_fastRemove_b59b0_18 : decode cJx4a65c_fastRemove_b59b0 18 = .ok (.iload_n 2, 1) := by decide +kernel
theorem dJx4a65c_fastRemove_b59b0_19 : decode cJx4a65c_fastRemove_b59b0 19 = .ok (.if_icmp .le 15, 3) := by decide +kernel
theorem dJx4a65c_fastRemove_b59b0_22 : decode cJx4a65c_fastRemove_b59b0 22 = .ok (.aload_n 1, 1) := by decide +kernel
theorem dJx4a65c_fastRemove_b59b0_23 : decode cJx4a65c_fastRemove_b59b0 23 = .ok (.iload_n 2, 1) := by decide +kernel
theorem dJx4a65c_fastRemove_b59b0_24 : decode cJx4a65c_fastRemove_b59b0 24 = .ok (.iconst 1, 1) := by decide +kernel
theorem dJx4a65c_fastRemove_b59b0_25 : decode cJx4a65c_fastRemove_b59b0 25 = .ok (.iadd, 1) := by decide +kernel
theorem dJx4a65c_fastRemove_b59b0_26 : decode cJx4a65c_fastRemove_b59b0 26 = .ok (.aload_n 1, 1) := by decide +kernel
theorem dJx4a65c_fastRemove_b59b0_27 : decode cJx4a65c_fastRemove_b59b0 27 = .ok (.iload_n 2, 1) := by decide +kernel
theorem dJx4a65c_fastRemove_b59b0_28 : decode cJx4a65c_fastRemove_b59b0 28 = .ok (.iload_n 3, 1) := by decide +kernel
theorem dJx4a65c_fastRemove_b59b0_29 : decode cJx4a65c_fastRemove_b59b0 29 = .ok (.iload_n 2, 1) := by decide +kernel
theorem dJx4a65c_fastRemove_b59b0_30 : decode cJx4a65c_fastRemove_b59b0 30 = .ok (.isub, 1) := by decide +kernel
theorem dJx4a65c_fastRemove_b59b0_31 : decode cJx4a65c_fastRemove_b59b0 31 = .ok (.invokestatic 112, 3) := by decide +kernel
theorem dJx4a65c_fastRemove_b59b0_34 : decode cJx4a65c_fastRemove_b59b0 34 = .ok (.aload_n 1, 1) := by decide +kernel
theorem dJx4a65c_fastRemove_b59b0_35 : decode cJx4a65c_fastRemove_b59b0 35 = .ok (.aload_n 0, 1) := by decide +kernel
theorem dJx4a65c_fastRemove_b59b0_36 : decode cJx4a65c_fastRemove_b59b0 36 = .ok (.iload_n 3, 1) := by decide +kernel
theorem dJx4a65c_fastRemove_b59b0_37 : decode cJx4a65c_fastRemove_b59b0 37 = .ok (.dup_x1, 1) := by decide +kernel
theorem dJx4a65c_fastRemove_b59b0_38 : decode cJx4a65c_fastRemove_b59b0 38 = .ok (.putfield 48, 3) := by decide +kernel
theorem dJx4a65c_fastRemove_b59b0_41 : decode cJx4a65c_fastRemove_b59b0 41 = .ok (.aconst_null, 1) := by decide +kernel
theorem dJx4a65c_fastRemove_b59b0_42 : decode cJx4a65c_fastRemove_b59b0 42 = .ok (.aastore, 1) := by decide +kernel
theorem dJx4a65c_fastRemove_b59b0_43 : decode cJx4a65c_fastRemove_b59b0 43 = .ok (.return_, 1) := by decide +kernel
theorem dJ7_copyOf_1904c_0 : decode cJ7_copyOf_1904c 0 = .ok (.aload_n 0, 1) := by decide +kernel
theorem dJ7_copyOf_1904c_1 : decode cJ7_copyOf_1904c 1 = .ok (.iload_n 1, 1) := by decide +kernel
theorem dJ7_copyOf_1904c_2 : decode cJ7_copyOf_1904c 2 = .ok (.aload_n 0, 1) := by decide +kernel
theorem dJ7_copyOf_1904c_3 : decode cJ7_copyOf_1904c 3 = .ok (.invokevirtual 86, 3) := by decide +kernel
theorem dJ7_copyOf_1904c_6 : decode cJ7_copyOf_1904c 6 = .ok (.invokestatic 300, 3) := by decide +kernel
theorem dJ7_copyOf_1904c_9 : decode cJ7_copyOf_1904c 9 = .ok (.areturn, 1) := by decide +kernel
theorem dJ7_copyOf_6403c_0 : decode cJ7_copyOf_6403c 0 = .ok (.aload_n 2, 1) := by decide +kernel
theorem dJ7_copyOf_6403c_1 : decode cJ7_copyOf_6403c 1 = .ok (.ldc 110, 2) := by decide +kernel
theorem dJ7_copyOf_6403c_3 : decode cJ7_copyOf_6403c 3 = .ok (.if_acmp .ne 10, 3) := by decide +kernel
theorem dJ7_copyOf_6403c_6 : decode cJ7_copyOf_6403c 6 = .ok (.iload_n 1, 1) := by decide +kernel
theorem dJ7_copyOf_6403c_7 : decode cJ7_copyOf_6403c 7 = .ok (.anewarray 2, 3) := by decide +kernel
theorem dJ7_copyOf_6403c_10 : decode cJ7_copyOf_6403c 10 = .ok (.goto 14, 3) := by decide +kernel
theorem dJ7_copyOf_6403c_13 : decode cJ7_copyOf_6403c 13 = .ok (.aload_n 2, 1) := by decide +kernel
theorem dJ7_copyOf_6403c_14 : decode cJ7_copyOf_6403c 14 = .ok (.invokevirtual 90, 3) := by decide +kernel
theorem dJ7_copyOf_6403c_17 : decode cJ7_copyOf_6403c 17 = .ok (.iload_n 1, 1) := by decide +kernel
theorem dJ7_copyOf_6403c_18 : decode cJ7_copyOf_6403c 18 = .ok (.invokestatic 95, 3) := by decide +kernel
theorem dJ7_copyOf_6403c_21 : decode cJ7_copyOf_6403c 21 = .ok (.checkcast 110, 3) := by decide +kernel
theorem dJ7_copyOf_6403c_24 : decode cJ7_copyOf_6403c 24 = .ok (.astore_n 3, 1) := by decide +kernel
theorem dJ7_copyOf_6403c_25 : decode cJ7_copyOf_6403c 25 = .ok (.aload_n 0, 1) := by decide +kernel
theorem dJ7_copyOf_6403c_26 : decode cJ7_copyOf_6403c 26 = .ok (.iconst 0, 1) := by decide +kernel
theorem dJ7_copyOf_6403c_27 : decode cJ7_copyOf_6403c 27 = .ok (.aload_n 3, 1) := by decide +kernel
theorem dJ7_copyOf_6403c_28 : decode cJ7_copyOf_6403c 28 = .ok (.iconst 0, 1) := by decide +kernel
theorem dJ7_copyOf_6403c_29 : decode cJ7_copyOf_6403c 29 = .ok (.aload_n 0, 1) := by decide +kernel
theorem dJ7_copyOf_6403c_30 : decode cJ7_copyOf_6403c 30 = .ok (.arraylength, 1) := by decide +kernel
theorem dJ7_copyOf_6403c_31 : decode cJ7_copyOf_6403c 31 = .ok (.iload_n 1, 1) := by decide +kernel
theorem dJ7_copyOf_6403c_32 : decode cJ7_copyOf_6403c 32 = .ok (.invokestatic 304, 3) := by decide +kernel
theorem dJ7_copyOf_6403c_35 : decode cJ7_copyOf_6403c 35 = .ok (.invokestatic 150, 3) := by decide +kernel
theorem dJ7_copyOf_6403c_38 : decode cJ7_copyOf_6403c 38 = .ok (.aload_n 3, 1) := by decide +kernel
theorem dJ7_copyOf_6403c_39 : decode cJ7_copyOf_6403c 39 = .ok (.areturn, 1) := by decide +kernel
theorem dJ15_checkIndex_7cf53_0 : decode cJ15_checkIndex_7cf53 0 = .ok (.iload_n 0, 1) := by decide +kernel
theorem dJ15_checkIndex_7cf53_1 : decode cJ15_checkIndex_7cf53 1 = .ok (.iload_n 1, 1) := by decide +kernel
theorem dJ15_checkIndex_7cf53_2 : decode cJ15_checkIndex_7cf53 2 = .ok (.aconst_null, 1) := by decide +kernel
theorem dJ15_checkIndex_7cf53_3 : decode cJ15_checkIndex_7cf53 3 = .ok (.invokestatic 105, 3) := by decide +kernel
theorem dJ15_checkIndex_7cf53_6 : decode cJ15_checkIndex_7cf53 6 = .ok (.ireturn, 1) := by decide +kernel
theorem dJ8_newLength_cabcc_0 : decode cJ8_newLength_cabcc 0 = .ok (.iload_n 0, 1) := by decide +kernel
theorem dJ8_newLength_cabcc_1 : decode cJ8_newLength_cabcc 1 = .ok (.iload_n 1, 1) := by decide +kernel
theorem dJ8_newLength_cabcc_2 : decode cJ8_newLength_cabcc 2 = .ok (.iload_n 2, 1) := by decide +kernel
theorem dJ8_newLength_cabcc_3 : decode cJ8_newLength_cabcc 3 = .ok (.invokestatic 194, 3) := by decide +kernel
theorem dJ8_newLength_cabcc_6 : decode cJ8_newLength_cabcc 6 = .ok (.iadd, 1) := by decide +kernel
theorem dJ8_newLength_cabcc_7 : decode cJ8_newLength_cabcc 7 = .ok (.istore_n 3, 1) := by decide +kernel
theorem dJ8_newLength_cabcc_8 : decode cJ8_newLength_cabcc 8 = .ok (.iconst 0, 1) := by decide +kernel
theorem dJ8_newLength_cabcc_9 : decode cJ8_newLength_cabcc 9 = .ok (.iload_n 3, 1) := by decide +kernel
theorem dJ8_newLength_cabcc_10 : decode cJ8_newLength_cabcc 10 = .ok (.if_icmp .ge 11, 3) := by decide +kernel
theorem dJ8_newLength_cabcc_13 : decode cJ8_newLength_cabcc 13 = .ok (.iload_n 3, 1) := by decide +kernel
theorem dJ8_newLength_cabcc_14 : decode cJ8_newLength_cabcc 14 = .ok (.ldc 200, 2) := by decide +kernel
theorem dJ8_newLength_cabcc_16 : decode cJ8_newLength_cabcc 16 = .ok (.if_icmp .gt 5, 3) := by decide +kernel
theorem dJ8_newLength_cabcc_19 : decode cJ8_newLength_cabcc 19 = .ok (.iload_n 3, 1) := by decide +kernel
theorem dJ8_newLength_cabcc_20 : decode cJ8_newLength_cabcc 20 = .ok (.ireturn, 1) := by decide +kernel
theorem dJ8_newLength_cabcc_21 : decode cJ8_newLength_cabcc 21 = .ok (.iload_n 0, 1) := by decide +kernel
theorem dJ8_newLength_cabcc_22 : decode cJ8_newLength_cabcc 22 = .ok (.iload_n 1, 1) := by decide +kernel
theorem dJ8_newLength_cabcc_23 : decode cJ8_newLength_cabcc 23 = .ok (.invokestatic 201, 3) := by decide +kernel
theorem dJ8_newLength_cabcc_26 : decode cJ8_newLength_cabcc 26 = .ok (.ireturn, 1) := by decide +kernel
theorem dJ8_hugeLength_7cf53_0 : decode cJ8_hugeLength_7cf53 0 = .ok (.iload_n 0, 1) := by decide +kernel
theorem dJ8_hugeLength_7cf53_1 : decode cJ8_hugeLength_7cf53 1 = .ok (.iload_n 1, 1) := by decide +kernel
theorem dJ8_hugeLength_7cf53_2 : decode cJ8_hugeLength_7cf53 2 = .ok (.iadd, 1) := by decide +kernel
theorem dJ8_hugeLength_7cf53_3 : decode cJ8_hugeLength_7cf53 3 = .ok (.istore_n 2, 1) := by decide +kernel
theorem dJ8_hugeLength_7cf53_4 : decode cJ8_hugeLength_7cf53 4 = .ok (.iload_n 2, 1) := by decide +kernel
theorem dJ8_hugeLength_7cf53_5 : decode cJ8_hugeLength_7cf53 5 = .ok (.ifCond .ge 44, 3) := by decide +kernel
theorem dJ8_hugeLength_7cf53_8 : decode cJ8_hugeLength_7cf53 8 = .ok (.new 204, 3) := by decide +kernel
theorem dJ8_hugeLength_7cf53_11 : decode cJ8_hugeLength_7cf53 11 = .ok (.dup, 1) := by decide +kernel
theorem dJ8_hugeLength_7cf53_12 : decode cJ8_hugeLength_7cf53 12 = .ok (.new 89, 3) := by decide +kernel
theorem dJ8_hugeLength_7cf53_15 : decode cJ8_hugeLength_7cf53 15 = .ok (.dup, 1) := by decide +kernel
theorem dJ8_hugeLength_7cf53_16 : decode cJ8_hugeLength_7cf53 16 = .ok (.invokespecial 91, 3) := by decide +kernel
theorem dJ8_hugeLength_7cf53_19 : decode cJ8_hugeLength_7cf53 19 = .ok (.ldc 206, 2) := by decide +kernel
theorem dJ8_hugeLength_7cf53_21 : decode cJ8_hugeLength_7cf53 21 = .ok (.invokevirtual 94, 3) := by decide +kernel
theorem dJ8_hugeLength_7cf53_24 : decode cJ8_hugeLength_7cf53 24 = .ok (.iload_n 0, 1) := by decide +kernel
theorem dJ8_hugeLength_7cf53_25 : decode cJ8_hugeLength_7cf53 25 = .ok (.invokevirtual 98, 3) := by decide +kernel
theorem dJ8_hugeLength_7cf53_28 : decode cJ8_hugeLength_7cf53 28 = .ok (.ldc 208, 2) := by decide +kernel
theorem dJ8_hugeLength_7cf53_30 : decode cJ8_hugeLength_7cf53 30 = .ok (.invokevirtual 94, 3) := by decide +kernel
theorem dJ8_hugeLength_7cf53_33 : decode cJ8_hugeLength_7cf53 33 = .ok (.iload_n 1, 1) := by decide +kernel
theorem dJ8_hugeLength_7cf53_34 : decode cJ8_hugeLength_7cf53 34 = .ok (.invokevirtual 98, 3) := by decide +kernel
theorem dJ8_hugeLength_7cf53_37 : decode cJ8_hugeLength_7cf53 37 = .ok (.ldc 210, 2) := by decide +kernel
theorem dJ8_hugeLength_7cf53_39 : decode cJ8_hugeLength_7cf53 39 = .ok (.invokevirtual 94, 3) := by decide +kernel
theorem dJ8_hugeLength_7cf53_42 : decode cJ8_hugeLength_7cf53 42 = .ok (.invokevirtual 101, 3) := by decide +kernel
theorem dJ8_hugeLength_7cf53_45 : decode cJ8_hugeLength_7cf53 45 = .ok (.invokespecial 212, 3) := by decide +kernel
theorem dJ8_hugeLength_7cf53_48 : decode cJ8_hugeLength_7cf53 48 = .ok (.athrow, 1) := by decide +kernel
theorem dJ8_hugeLength_7cf53_49 : decode cJ8_hugeLength_7cf53 49 = .ok (.iload_n 2, 1) := by decide +kernel
theorem dJ8_hugeLength_7cf53_50 : decode cJ8_hugeLength_7cf53 50 = .ok (.ldc 200, 2) := by decide +kernel
theorem dJ8_hugeLength_7cf53_52 : decode cJ8_hugeLength_7cf53 52 = .ok (.if_icmp .gt 6, 3) := by decide +kernel
theorem dJ8_hugeLength_7cf53_55 : decode cJ8_hugeLength_7cf53 55 = .ok (.ldc 200, 2) := by decide +kernel
theorem dJ8_hugeLength_7cf53_57 : decode cJ8_hugeLength_7cf53 57 = .ok (.ireturn, 1) := by decide +kernel
theorem dJ8_hugeLength_7cf53_58 : decode cJ8_hugeLength_7cf53 58 = .ok (.iload_n 2, 1) := by decide +kernel
theorem dJ8_hugeLength_7cf53_59 : decode cJ8_hugeLength_7cf53 59 = .ok (.ireturn, 1) := by decide +kernel
theorem dJ3_checkIndex_8e157_0 : decode cJ3_checkIndex_8e157 0 = .ok (.iload_n 0, 1) := by decide +kernel
theorem dJ3_checkIndex_8e157_1 : decode cJ3_checkIndex_8e157 1 = .ok (.ifCond .lt 8, 3) := by decide +kernel
theorem dJ3_checkIndex_8e157_4 : decode cJ3_checkIndex_8e157 4 = .ok (.iload_n 0, 1) := by decide +kernel
theorem dJ3_checkIndex_8e157_5 : decode cJ3_checkIndex_8e157 5 = .ok (.iload_n 1, 1) := by decide +kernel
theorem dJ3_checkIndex_8e157_6 : decode cJ3_checkIndex_8e157 6 = .ok (.if_icmp .lt 10, 3) := by decide +kernel
theorem dJ3_checkIndex_8e157_9 : decode cJ3_checkIndex_8e157 9 = .ok (.aload_n 2, 1) := by decide +kernel
theorem dJ3_checkIndex_8e157_10 : decode cJ3_checkIndex_8e157 10 = .ok (.iload_n 0, 1) := by decide +kernel
theorem dJ3_checkIndex_8e157_11 : decode cJ3_checkIndex_8e157 11 = .ok (.iload_n 1, 1) := by decide +kernel
theorem dJ3_checkIndex_8e157_12 : decode cJ3_checkIndex_8e157 12 = .ok (.invokestatic 95, 3) := by decide +kernel
theorem dJ3_checkIndex_8e157_15 : decode cJ3_checkIndex_8e157 15 = .ok (.athrow, 1) := by decide +kernel
theorem dJ3_checkIndex_8e157_16 : decode cJ3_checkIndex_8e157 16 = .ok (.iload_n 0, 1) := by decide +kernel
theorem dJ3_checkIndex_8e157_17 : decode cJ3_checkIndex_8e157 17 = .ok (.ireturn, 1) := by decide +kernel
theorem dX0_init_0 : decode cX0_init 0 = .ok (.aload_n 0, 1) := by decide +kernel
theorem dX0_init_1 : decode cX0_init 1 = .ok (.invokespecial 1, 3) := by decide +kernel
theorem dX0_init_4 : decode cX0_init 4 = .ok (.aload_n 0, 1) := by decide +kernel
theorem dX0_init_5 : decode cX0_init 5 = .ok (.iconst 0, 1) := by decide +kernel
theorem dX0_init_6 : decode cX0_init 6 = .ok (.putfield 7, 3) := by decide +kernel
theorem dX0_init_9 : decode cX0_init 9 = .ok (.aload_n 0, 1) := by decide +kernel
theorem dX0_init_10 : decode cX0_init 10 = .ok (.iload_n 1, 1) := by decide +kernel
theorem dX0_init_11 : decode cX0_init 11 = .ok (.putfield 13, 3) := by decide +kernel
theorem dX0_init_14 : decode cX0_init 14 = .ok (.return_, 1) := by decide +kernel
theorem dX1_init_0 : decode cX1_init 0 = .ok (.aload_n 0, 1) := by decide +kernel
theorem dX1_init_1 : decode cX1_init 1 = .ok (.invokespecial 1, 3) := by decide +kernel
theorem dX1_init_4 : decode cX1_init 4 = .ok (.aload_n 0, 1) := by decide +kernel
theorem dX1_init_5 : decode cX1_init 5 = .ok (.iload_n 1, 1) := by decide +kernel
theorem dX1_init_6 : decode cX1_init 6 = .ok (.putfield 7, 3) := by decide +kernel
theorem dX1_init_9 : decode cX1_init 9 = .ok (.aload_n 0, 1) := by decide +kernel
theorem dX1_init_10 : decode cX1_init 10 = .ok (.iload_n 2, 1) := by decide +kernel
theorem dX1_init_11 : decode cX1_init 11 = .ok (.putfield 13, 3) := by decide +kernel
theorem dX1_init_14 : decode cX1_init 14 = .ok (.aload_n 0, 1) := by decide +kernel
theorem dX1_init_15 : decode cX1_init 15 = .ok (.iload_n 3, 1) := by decide +kernel
theorem dX1_init_16 : decode cX1_init 16 = .ok (.putfield 17, 3) := by decide +kernel
theorem dX1_init_19 : decode cX1_init 19 = .ok (.return_, 1) := by decide +kernel
theorem dX2_init_0 : decode cX2_init 0 = .ok (.aload_n 0, 1) := by decide +kernel
theorem dX2_init_1 : decode cX2_init 1 = .ok (.invokespecial 3, 3) := by decide +kernel
theorem dX2_init_4 : decode cX2_init 4 = .ok (.aload_n 0, 1) := by decide +kernel
theorem dX2_init_5 : decode cX2_init 5 = .ok (.iconst 0, 1) := by decide +kernel
theorem dX2_init_6 : decode cX2_init 6 = .ok (.putfield 9, 3) := by decide +kernel
theorem dX2_init_9 : decode cX2_init 9 = .ok (.aload_n 0, 1) := by decide +kernel
theorem dX2_init_10 : decode cX2_init 10 = .ok (.iconst 1, 1) := by decide +kernel
theorem dX2_init_11 : decode cX2_init 11 = .ok (.putfield 15, 3) := by decide +kernel
theorem dX2_init_14 : decode cX2_init 14 = .ok (.aload_n 0, 1) := by decide +kernel
theorem dX2_init_15 : decode cX2_init 15 = .ok (.bipush 115, 2) := by decide +kernel
theorem dX2_init_17 : decode cX2_init 17 = .ok (.putfield 19, 3) := by decide +kernel
theorem dX2_init_20 : decode cX2_init 20 = .ok (.aload_n 0, 1) := by decide +kernel
theorem dX2_init_21 : decode cX2_init 21 = .ok (.iconst 0, 1) := by decide +kernel
theorem dX2_init_22 : decode cX2_init 22 = .ok (.putfield 23, 3) := by decide +kernel
theorem dX2_init_25 : decode cX2_init 25 = .ok (.aload_n 0, 1) := by decide +kernel
theorem dX2_init_26 : decode cX2_init 26 = .ok (.iload_n 1, 1) := by decide +kernel
theorem dX2_init_27 : decode cX2_init 27 = .ok (.putfield 26, 3) := by decide +kernel
theorem dX2_init_30 : decode cX2_init 30 = .ok (.aload_n 0, 1) := by decide +kernel
theorem dX2_init_31 : decode cX2_init 31 = .ok (.iload_n 2, 1) := by decide +kernel
theorem dX2_init_32 : decode cX2_init 32 = .ok (.putfield 29, 3) := by decide +kernel
theorem dX2_init_35 : decode cX2_init 35 = .ok (.return_, 1) := by decide +kernel
theorem dX2_cleanForOneTick_0 : decode cX2_cleanForOneTick 0 = .ok (.aload_n 0, 1) := by decide +kernel
theorem dX2_cleanForOneTick_1 : decode cX2_cleanForOneTick 1 = .ok (.dup, 1) := by decide +kernel
theorem dX2_cleanForOneTick_2 : decode cX2_cleanForOneTick 2 = .ok (.getfield 23, 3) := by decide +kernel
theorem dX2_cleanForOneTick_5 : decode cX2_cleanForOneTick 5 = .ok (.iconst 1, 1) := by decide +kernel
theorem dX2_cleanForOneTick_6 : decode cX2_cleanForOneTick 6 = .ok (.isub, 1) := by decide +kernel
theorem dX2_cleanForOneTick_7 : decode cX2_cleanForOneTick 7 = .ok (.putfield 23, 3) := by decide +kernel
theorem dX2_cleanForOneTick_10 : decode cX2_cleanForOneTick 10 = .ok (.aload_n 0, 1) := by decide +kernel
theorem dX2_cleanForOneTick_11 : decode cX2_cleanForOneTick 11 = .ok (.getfield 23, 3) := by decide +kernel
theorem dX2_cleanForOneTick_14 : decode cX2_cleanForOneTick 14 = .ok (.ifCond .gt 9, 3) := by decide +kernel
theorem dX2_cleanForOneTick_17 : decode cX2_cleanForOneTick 17 = .ok (.aload_n 0, 1) := by decide +kernel
theorem dX2_cleanForOneTick_18 : decode cX2_cleanForOneTick 18 = .ok (.bipush 115, 2) := by decide +kernel
theorem dX2_cleanForOneTick_20 : decode cX2_cleanForOneTick 20 = .ok (.putfield 19, 3) := by decide +kernel
theorem dX2_cleanForOneTick_23 : decode cX2_cleanForOneTick 23 = .ok (.return_, 1) := by decide +kernel
theorem dX3_init_0 : decode cX3_init 0 = .ok (.aload_n 0, 1) := by decide +kernel
theorem dX3_init_1 : decode cX3_init 1 = .ok (.invokespecial 3, 3) := by decide +kernel
theorem dX3_init_4 : decode cX3_init 4 = .ok (.aload_n 0, 1) := by decide +kernel
theorem dX3_init_5 : decode cX3_init 5 = .ok (.bipush 119, 2) := by decide +kernel
theorem dX3_init_7 : decode cX3_init 7 = .ok (.putfield 9, 3) := by decide +kernel
theorem dX3_init_10 : decode cX3_init 10 = .ok (.aload_n 0, 1) := by decide +kernel
theorem dX3_init_11 : decode cX3_init 11 = .ok (.aconst_null, 1) := by decide +kernel
theorem dX3_init_12 : decode cX3_init 12 = .ok (.putfield 15, 3) := by decide +kernel
theorem dX3_init_15 : decode cX3_init 15 = .ok (.aload_n 0, 1) := by decide +kernel
theorem dX3_init_16 : decode cX3_init 16 = .ok (.iconst 0, 1) := by decide +kernel
theorem dX3_init_17 : decode cX3_init 17 = .ok (.putfield 19, 3) := by decide +kernel
theorem dX3_init_20 : decode cX3_init 20 = .ok (.aload_n 0, 1) := by decide +kernel
theorem dX3_init_21 : decode cX3_init 21 = .ok (.iload_n 1, 1) := by decide +kernel
theorem dX3_init_22 : decode cX3_init 22 = .ok (.putfield 23, 3) := by decide +kernel
theorem dX3_init_25 : decode cX3_init 25 = .ok (.aload_n 0, 1) := by decide +kernel
theorem dX3_init_26 : decode cX3_init 26 = .ok (.aload_n 2, 1) := by decide +kernel
theorem dX3_init_27 : decode cX3_init 27 = .ok (.putfield 26, 3) := by decide +kernel
theorem dX3_init_30 : decode cX3_init 30 = .ok (.aload_n 0, 1) := by decide +kernel
theorem dX3_init_31 : decode cX3_init 31 = .ok (.iload_n 3, 1) := by decide +kernel
theorem dX3_init_32 : decode cX3_init 32 = .ok (.putfield 30, 3) := by decide +kernel
theorem dX3_init_35 : decode cX3_init 35 = .ok (.aload_n 0, 1) := by decide +kernel
theorem dX3_init_36 : decode cX3_init 36 = .ok (.iload 4, 2) := by decide +kernel
theorem dX3_init_38 : decode cX3_init 38 = .ok (.putfield 33, 3) := by decide +kernel
theorem dX3_init_41 : decode cX3_init 41 = .ok (.return_, 1) := by decide +kernel
theorem dX3_isIn_0 : decode cX3_isIn 0 = .ok (.aload_n 0, 1) := by decide +kernel
theorem dX3_isIn_1 : decode cX3_isIn 1 = .ok (.getfield 9, 3) := by decide +kernel
theorem dX3_isIn_4 : decode cX3_isIn 4 = .ok (.bipush 97, 2) := by decide +kernel
theorem dX3_isIn_6 : decode cX3_isIn 6 = .ok (.if_icmp .ne 15, 3) := by decide +kernel
theorem dX3_isIn_9 : decode cX3_isIn 9 = .ok (.aload_n 0, 1) := by decide +kernel
theorem dX3_isIn_10 : decode cX3_isIn 10 = .ok (.getfield 15, 3) := by decide +kernel
theorem dX3_isIn_13 : decode cX3_isIn 13 = .ok (.aload_n 1, 1) := by decide +kernel
theorem dX3_isIn_14 : decode cX3_isIn 14 = .ok (.if_acmp .ne 7, 3) := by decide +kernel
theorem dX3_isIn_17 : decode cX3_isIn 17 = .ok (.iconst 1, 1) := by decide +kernel
theorem dX3_isIn_18 : decode cX3_isIn 18 = .ok (.goto 4, 3) := by decide +kernel
theorem dX3_isIn_21 : decode cX3_isIn 21 = .ok (.iconst 0, 1) := by decide +kernel
theorem dX3_isIn_22 : decode cX3_isIn 22 = .ok (.ireturn, 1) := by decide +kernel
theorem dX3_waitsFor_0 : decode cX3_waitsFor 0 = .ok (.aload_n 0, 1) := by decide +kernel
theorem dX3_waitsFor_1 : decode cX3_waitsFor 1 = .ok (.getfield 9, 3) := by decide +kernel
theorem dX3_waitsFor_4 : decode cX3_waitsFor 4 = .ok (.bipush 119, 2) := by decide +kernel
theorem dX3_waitsFor_6 : decode cX3_waitsFor 6 = .ok (.if_icmp .ne 15, 3) := by decide +kernel
theorem dX3_waitsFor_9 : decode cX3_waitsFor 9 = .ok (.aload_n 0, 1) := by decide +kernel
theorem dX3_waitsFor_10 : decode cX3_waitsFor 10 = .ok (.getfield 15, 3) := by decide +kernel
theorem dX3_waitsFor_13 : decode cX3_waitsFor 13 = .ok (.aload_n 1, 1) := by decide +kernel
theorem dX3_waitsFor_14 : decode cX3_waitsFor 14 = .ok (.if_acmp .ne 7, 3) := by decide +kernel
theorem dX3_waitsFor_17 : decode cX3_waitsFor 17 = .ok (.iconst 1, 1) := by decide +kernel
theorem dX3_waitsFor_18 : decode cX3_waitsFor 18 = .ok (.goto 4, 3) := by decide +kernel
theorem dX3_waitsFor_21 : decode cX3_waitsFor 21 = .ok (.iconst 0, 1) := by decide +kernel
theorem dX3_waitsFor_22 : decode cX3_waitsFor 22 = .ok (.ireturn, 1) := by decide +kernel
theorem dX4_init_0 : decode cX4_init 0 = .ok (.aload_n 0, 1) := by decide +kernel
theorem dX4_init_1 : decode cX4_init 1 = .ok (.invokespecial 1, 3) := by decide +kernel
theorem dX4_init_4 : decode cX4_init 4 = .ok (.aload_n 0, 1) := by decide +kernel
theorem dX4_init_5 : decode cX4_init 5 = .ok (.bipush 10, 2) := by decide +kernel
theorem dX4_init_7 : decode cX4_init 7 = .ok (.newarray .int, 2) := by decide +kernel
theorem dX4_init_9 : decode cX4_init 9 = .ok (.putfield 9, 3) := by decide +kernel
theorem dX4_init_12 : decode cX4_init 12 = .ok (.aload_n 0, 1) := by decide +kernel
theorem dX4_init_13 : decode cX4_init 13 = .ok (.bipush 10, 2) := by decide +kernel
theorem dX4_init_15 : decode cX4_init 15 = .ok (.newarray .int, 2) := by decide +kernel
theorem dX4_init_17 : decode cX4_init 17 = .ok (.putfield 13, 3) := by decide +kernel
theorem dX4_init_20 : decode cX4_init 20 = .ok (.aload_n 0, 1) := by decide +kernel
theorem dX4_init_21 : decode cX4_init 21 = .ok (.bipush 10, 2) := by decide +kernel
theorem dX4_init_23 : decode cX4_init 23 = .ok (.newarray .int, 2) := by decide +kernel
theorem dX4_init_25 : decode cX4_init 25 = .ok (.putfield 16, 3) := by decide +kernel
theorem dX4_init_28 : decode cX4_init 28 = .ok (.aload_n 0, 1) := by decide +kernel
theorem dX4_init_29 : decode cX4_init 29 = .ok (.new 19, 3) := by decide +kernel
theorem dX4_init_32 : decode cX4_init 32 = .ok (.dup, 1) := by decide +kernel
theorem dX4_init_33 : decode cX4_init 33 = .ok (.invokespecial 21, 3) := by decide +kernel
theorem dX4_init_36 : decode cX4_init 36 = .ok (.putfield 22, 3) := by decide +kernel
theorem dX4_init_39 : decode cX4_init 39 = .ok (.aload_n 0, 1) := by decide +kernel
theorem dX4_init_40 : decode cX4_init 40 = .ok (.new 19, 3) := by decide +kernel
theorem dX4_init_43 : decode cX4_init 43 = .ok (.dup, 1) := by decide +kernel
theorem dX4_init_44 : decode cX4_init 44 = .ok (.invokespecial 21, 3) := by decide +kernel
theorem dX4_init_47 : decode cX4_init 47 = .ok (.putfield 26, 3) := by decide +kernel
theorem dX4_init_50 : decode cX4_init 50 = .ok (.aload_n 0, 1) := by decide +kernel
theorem dX4_init_51 : decode cX4_init 51 = .ok (.new 19, 3) := by decide +kernel
theorem dX4_init_54 : decode cX4_init 54 = .ok (.dup, 1) := by decide +kernel
theorem dX4_init_55 : decode cX4_init 55 = .ok (.invokespecial 21, 3) := by decide +kernel
theorem dX4_init_58 : decode cX4_init 58 = .ok (.putfield 29, 3) := by decide +kernel
theorem dX4_init_61 : decode cX4_init 61 = .ok (.aload_n 0, 1) := by decide +kernel
theorem dX4_init_62 : decode cX4_init 62 = .ok (.new 19, 3) := by decide +kernel
theorem dX4_init_65 : decode cX4_init 65 = .ok (.dup, 1) := by decide +kernel
theorem dX4_init_66 : decode cX4_init 66 = .ok (.invokespecial 21, 3) := by decide +kernel
theorem dX4_init_69 : decode cX4_init 69 = .ok (.putfield 32, 3) := by decide +kernel
theorem dX4_init_72 : decode cX4_init 72 = .ok (.aload_n 0, 1) := by decide +kernel
theorem dX4_init_73 : decode cX4_init 73 = .ok (.new 19, 3) := by decide +kernel
theorem dX4_init_76 : decode cX4_init 76 = .ok (.dup, 1) := by decide +kernel
theorem dX4_init_77 : decode cX4_init 77 = .ok (.invokespecial 21, 3) := by decide +kernel
theorem dX4_init_80 : decode cX4_init 80 = .ok (.putfield 35, 3) := by decide +kernel
theorem dX4_init_83 : decode cX4_init 83 = .ok (.aload_n 0, 1) := by decide +kernel
theorem dX4_init_84 : decode cX4_init 84 = .ok (.iconst 0, 1) := by decide +kernel
theorem dX4_init_85 : decode cX4_init 85 = .ok (.putfield 38, 3) := by decide +kernel
theorem dX4_init_88 : decode cX4_init 88 = .ok (.aload_n 0, 1) := by decide +kernel
theorem dX4_init_89 : decode cX4_init 89 = .ok (.iconst (-1), 1) := by decide +kernel
theorem dX4_init_90 : decode cX4_init 90 = .ok (.putfield 42, 3) := by decide +kernel
theorem dX4_init_93 : decode cX4_init 93 = .ok (.aload_n 0, 1) := by decide +kernel
theorem dX4_init_94 : decode cX4_init 94 = .ok (.iconst 0, 1) := by decide +kernel
theorem dX4_init_95 : decode cX4_init 95 = .ok (.putfield 45, 3) := by decide +kernel
theorem dX4_init_98 : decode cX4_init 98 = .ok (.aload_n 0, 1) := by decide +kernel
theorem dX4_init_99 : decode cX4_init 99 = .ok (.iconst 0, 1) := by decide +kernel
theorem dX4_init_100 : decode cX4_init 100 = .ok (.putfield 48, 3) := by decide +kernel
theorem dX4_init_103 : decode cX4_init 103 = .ok (.iconst 0, 1) := by decide +kernel
theorem dX4_init_104 : decode cX4_init 104 = .ok (.istore_n 1, 1) := by decide +kernel
theorem dX4_init_105 : decode cX4_init 105 = .ok (.iload_n 1, 1) := by decide +kernel
theorem dX4_init_106 : decode cX4_init 106 = .ok (.bipush 10, 2) := by decide +kernel
theorem dX4_init_108 : decode cX4_init 108 = .ok (.if_icmp .ge 24, 3) := by decide +kernel
theorem dX4_init_111 : decode cX4_init 111 = .ok (.aload_n 0, 1) := by decide +kernel
theorem dX4_init_112 : decode cX4_init 112 = .ok (.getfield 9, 3) := by decide +kernel
theorem dX4_init_115 : decode cX4_init 115 = .ok (.iload_n 1, 1) := by decide +kernel
theorem dX4_init_116 : decode cX4_init 116 = .ok (.iconst (-1), 1) := by decide +kernel
theorem dX4_init_117 : decode cX4_init 117 = .ok (.iastore, 1) := by decide +kernel
theorem dX4_init_118 : decode cX4_init 118 = .ok (.aload_n 0, 1) := by decide +kernel
theorem dX4_init_119 : decode cX4_init 119 = .ok (.getfield 16, 3) := by decide +kernel
theorem dX4_init_122 : decode cX4_init 122 = .ok (.iload_n 1, 1) := by decide +kernel
theorem dX4_init_123 : decode cX4_init 123 = .ok (.bipush 100, 2) := by decide +kernel
theorem dX4_init_125 : decode cX4_init 125 = .ok (.iastore, 1) := by decide +kernel
theorem dX4_init_126 : decode cX4_init 126 = .ok (.iinc 1 1, 3) := by decide +kernel
theorem dX4_init_129 : decode cX4_init 129 = .ok (.goto (-24), 3) := by decide +kernel
theorem dX4_init_132 : decode cX4_init 132 = .ok (.return_, 1) := by decide +kernel
theorem dX4_addLift_0 : decode cX4_addLift 0 = .ok (.iload_n 1, 1) := by decide +kernel
theorem dX4_addLift_1 : decode cX4_addLift 1 = .ok (.iconst 1, 1) := by decide +kernel
theorem dX4_addLift_2 : decode cX4_addLift 2 = .ok (.if_icmp .lt 8, 3) := by decide +kernel
theorem dX4_addLift_5 : decode cX4_addLift 5 = .ok (.iload_n 1, 1) := by decide +kernel
theorem dX4_addLift_6 : decode cX4_addLift 6 = .ok (.iconst 4, 1) := by decide +kernel
theorem dX4_addLift_7 : decode cX4_addLift 7 = .ok (.if_icmp .le 13, 3) := by decide +kernel
theorem dX4_addLift_10 : decode cX4_addLift 10 = .ok (.new 51, 3) := by decide +kernel
theorem dX4_addLift_13 : decode cX4_addLift 13 = .ok (.dup, 1) := by decide +kernel
theorem dX4_addLift_14 : decode cX4_addLift 14 = .ok (.ldc 53, 2) := by decide +kernel
theorem dX4_addLift_16 : decode cX4_addLift 16 = .ok (.invokespecial 55, 3) := by decide +kernel
theorem dX4_addLift_19 : decode cX4_addLift 19 = .ok (.athrow, 1) := by decide +kernel
theorem dX4_addLift_20 : decode cX4_addLift 20 = .ok (.aload_n 0, 1) := by decide +kernel
theorem dX4_addLift_21 : decode cX4_addLift 21 = .ok (.getfield 26, 3) := by decide +kernel
theorem dX4_addLift_24 : decode cX4_addLift 24 = .ok (.invokevirtual 58, 3) := by decide +kernel
theorem dX4_addLift_27 : decode cX4_addLift 27 = .ok (.iconst 3, 1) := by decide +kernel
theorem dX4_addLift_28 : decode cX4_addLift 28 = .ok (.if_icmp .lt 13, 3) := by decide +kernel
theorem dX4_addLift_31 : decode cX4_addLift 31 = .ok (.new 62, 3) := by decide +kernel
theorem dX4_addLift_34 : decode cX4_addLift 34 = .ok (.dup, 1) := by decide +kernel
theorem dX4_addLift_35 : decode cX4_addLift 35 = .ok (.ldc 64, 2) := by decide +kernel
theorem dX4_addLift_37 : decode cX4_addLift 37 = .ok (.invokespecial 66, 3) := by decide +kernel
theorem dX4_addLift_40 : decode cX4_addLift 40 = .ok (.athrow, 1) := by decide +kernel
theorem dX4_addLift_41 : decode cX4_addLift 41 = .ok (.new 67, 3) := by decide +kernel
theorem dX4_addLift_44 : decode cX4_addLift 44 = .ok (.dup, 1) := by decide +kernel
theorem dX4_addLift_45 : decode cX4_addLift 45 = .ok (.aload_n 0, 1) := by decide +kernel
theorem dX4_addLift_46 : decode cX4_addLift 46 = .ok (.getfield 26, 3) := by decide +kernel
theorem dX4_addLift_49 : decode cX4_addLift 49 = .ok (.invokevirtual 58, 3) := by decide +kernel
theorem dX4_addLift_52 : decode cX4_addLift 52 = .ok (.iload_n 1, 1) := by decide +kernel
theorem dX4_addLift_53 : decode cX4_addLift 53 = .ok (.invokespecial 69, 3) := by decide +kernel
theorem dX4_addLift_56 : decode cX4_addLift 56 = .ok (.astore_n 2, 1) := by decide +kernel
theorem dX4_addLift_57 : decode cX4_addLift 57 = .ok (.aload_n 0, 1) := by decide +kernel
theorem dX4_addLift_58 : decode cX4_addLift 58 = .ok (.getfield 26, 3) := by decide +kernel
theorem dX4_addLift_61 : decode cX4_addLift 61 = .ok (.aload_n 2, 1) := by decide +kernel
theorem dX4_addLift_62 : decode cX4_addLift 62 = .ok (.invokevirtual 72, 3) := by decide +kernel
theorem dX4_addLift_65 : decode cX4_addLift 65 = .ok (.pop, 1) := by decide +kernel
theorem dX4_addLift_66 : decode cX4_addLift 66 = .ok (.aload_n 2, 1) := by decide +kernel
theorem dX4_addLift_67 : decode cX4_addLift 67 = .ok (.getfield 76, 3) := by decide +kernel
theorem dX4_addLift_70 : decode cX4_addLift 70 = .ok (.ireturn, 1) := by decide +kernel
theorem dX4_setTenant_0 : decode cX4_setTenant 0 = .ok (.iload_n 1, 1) := by decide +kernel
theorem dX4_setTenant_1 : decode cX4_setTenant 1 = .ok (.ifCond .le 9, 3) := by decide +kernel
theorem dX4_setTenant_4 : decode cX4_setTenant 4 = .ok (.iload_n 1, 1) := by decide +kernel
theorem dX4_setTenant_5 : decode cX4_setTenant 5 = .ok (.bipush 10, 2) := by decide +kernel
theorem dX4_setTenant_7 : decode cX4_setTenant 7 = .ok (.if_icmp .lt 13, 3) := by decide +kernel
theorem dX4_setTenant_10 : decode cX4_setTenant 10 = .ok (.new 79, 3) := by decide +kernel
theorem dX4_setTenant_13 : decode cX4_setTenant 13 = .ok (.dup, 1) := by decide +kernel
theorem dX4_setTenant_14 : decode cX4_setTenant 14 = .ok (.ldc 81, 2) := by decide +kernel
theorem dX4_setTenant_16 : decode cX4_setTenant 16 = .ok (.invokespecial 83, 3) := by decide +kernel
theorem dX4_setTenant_19 : decode cX4_setTenant 19 = .ok (.athrow, 1) := by decide +kernel
theorem dX4_setTenant_20 : decode cX4_setTenant 20 = .ok (.iload_n 2, 1) := by decide +kernel
theorem dX4_setTenant_21 : decode cX4_setTenant 21 = .ok (.iconst (-1), 1) := by decide +kernel
theorem dX4_setTenant_22 : decode cX4_setTenant 22 = .ok (.if_icmp .lt 8, 3) := by decide +kernel
theorem dX4_setTenant_25 : decode cX4_setTenant 25 = .ok (.iload_n 2, 1) := by decide +kernel
theorem dX4_setTenant_26 : decode cX4_setTenant 26 = .ok (.iconst 4, 1) := by decide +kernel
theorem dX4_setTenant_27 : decode cX4_setTenant 27 = .ok (.if_icmp .lt 13, 3) := by decide +kernel
theorem dX4_setTenant_30 : decode cX4_setTenant 30 = .ok (.new 51, 3) := by decide +kernel
theorem dX4_setTenant_33 : decode cX4_setTenant 33 = .ok (.dup, 1) := by decide +kernel
theorem dX4_setTenant_34 : decode cX4_setTenant 34 = .ok (.ldc 84, 2) := by decide +kernel
theorem dX4_setTenant_36 : decode cX4_setTenant 36 = .ok (.invokespecial 55, 3) := by decide +kernel
theorem dX4_setTenant_39 : decode cX4_setTenant 39 = .ok (.athrow, 1) := by decide +kernel
theorem dX4_setTenant_40 : decode cX4_setTenant 40 = .ok (.aload_n 0, 1) := by decide +kernel
theorem dX4_setTenant_41 : decode cX4_setTenant 41 = .ok (.getfield 9, 3) := by decide +kernel
theorem dX4_setTenant_44 : decode cX4_setTenant 44 = .ok (.iload_n 1, 1) := by decide +kernel
theorem dX4_setTenant_45 : decode cX4_setTenant 45 = .ok (.iaload, 1) := by decide +kernel
theorem dX4_setTenant_46 : decode cX4_setTenant 46 = .ok (.istore_n 3, 1) := by decide +kernel
theorem dX4_setTenant_47 : decode cX4_setTenant 47 = .ok (.aload_n 0, 1) := by decide +kernel
theorem dX4_setTenant_48 : decode cX4_setTenant 48 = .ok (.getfield 9, 3) := by decide +kernel
theorem dX4_setTenant_51 : decode cX4_setTenant 51 = .ok (.iload_n 1, 1) := by decide +kernel
theorem dX4_setTenant_52 : decode cX4_setTenant 52 = .ok (.iload_n 2, 1) := by decide +kernel
theorem dX4_setTenant_53 : decode cX4_setTenant 53 = .ok (.iastore, 1) := by decide +kernel
theorem dX4_setTenant_54 : decode cX4_setTenant 54 = .ok (.iload_n 3, 1) := by decide +kernel
theorem dX4_setTenant_55 : decode cX4_setTenant 55 = .ok (.ireturn, 1) := by decide +kernel
theorem dX4_setHours_0 : decode cX4_setHours 0 = .ok (.iload_n 1, 1) := by decide +kernel
theorem dX4_setHours_1 : decode cX4_setHours 1 = .ok (.ifCond .le 9, 3) := by decide +kernel
theorem dX4_setHours_4 : decode cX4_setHours 4 = .ok (.iload_n 1, 1) := by decide +kernel
theorem dX4_setHours_5 : decode cX4_setHours 5 = .ok (.bipush 10, 2) := by decide +kernel
theorem dX4_setHours_7 : decode cX4_setHours 7 = .ok (.if_icmp .lt 13, 3) := by decide +kernel
theorem dX4_setHours_10 : decode cX4_setHours 10 = .ok (.new 79, 3) := by decide +kernel
theorem dX4_setHours_13 : decode cX4_setHours 13 = .ok (.dup, 1) := by decide +kernel
theorem dX4_setHours_14 : decode cX4_setHours 14 = .ok (.ldc 81, 2) := by decide +kernel
theorem dX4_setHours_16 : decode cX4_setHours 16 = .ok (.invokespecial 83, 3) := by decide +kernel
theorem dX4_setHours_19 : decode cX4_setHours 19 = .ok (.athrow, 1) := by decide +kernel
theorem dX4_setHours_20 : decode cX4_setHours 20 = .ok (.iload_n 2, 1) := by decide +kernel
theorem dX4_setHours_21 : decode cX4_setHours 21 = .ok (.ifCond .lt 20, 3) := by decide +kernel
theorem dX4_setHours_24 : decode cX4_setHours 24 = .ok (.iload_n 2, 1) := by decide +kernel
theorem dX4_setHours_25 : decode cX4_setHours 25 = .ok (.bipush 100, 2) := by decide +kernel
theorem dX4_setHours_27 : decode cX4_setHours 27 = .ok (.if_icmp .ge 14, 3) := by decide +kernel
theorem dX4_setHours_30 : decode cX4_setHours 30 = .ok (.iload_n 3, 1) := by decide +kernel
theorem dX4_setHours_31 : decode cX4_setHours 31 = .ok (.iload_n 2, 1) := by decide +kernel
theorem dX4_setHours_32 : decode cX4_setHours 32 = .ok (.if_icmp .le 9, 3) := by decide +kernel
theorem dX4_setHours_35 : decode cX4_setHours 35 = .ok (.iload_n 3, 1) := by decide +kernel
theorem dX4_setHours_36 : decode cX4_setHours 36 = .ok (.bipush 100, 2) := by decide +kernel
theorem dX4_setHours_38 : decode cX4_setHours 38 = .ok (.if_icmp .le 13, 3) := by decide +kernel
theorem dX4_setHours_41 : decode cX4_setHours 41 = .ok (.new 51, 3) := by decide +kernel
theorem dX4_setHours_44 : decode cX4_setHours 44 = .ok (.dup, 1) := by decide +kernel
theorem dX4_setHours_45 : decode cX4_setHours 45 = .ok (.ldc 86, 2) := by decide +kernel
theorem dX4_setHours_47 : decode cX4_setHours 47 = .ok (.invokespecial 55, 3) := by decide +kernel
theorem dX4_setHours_50 : decode cX4_setHours 50 = .ok (.athrow, 1) := by decide +kernel
theorem dX4_setHours_51 : decode cX4_setHours 51 = .ok (.aload_n 0, 1) := by decide +kernel
theorem dX4_setHours_52 : decode cX4_setHours 52 = .ok (.getfield 13, 3) := by decide +kernel
theorem dX4_setHours_55 : decode cX4_setHours 55 = .ok (.iload_n 1, 1) := by decide +kernel
theorem dX4_setHours_56 : decode cX4_setHours 56 = .ok (.iload_n 2, 1) := by decide +kernel
theorem dX4_setHours_57 : decode cX4_setHours 57 = .ok (.iastore, 1) := by decide +kernel
theorem dX4_setHours_58 : decode cX4_setHours 58 = .ok (.aload_n 0, 1) := by decide +kernel
theorem dX4_setHours_59 : decode cX4_setHours 59 = .ok (.getfield 16, 3) := by decide +kernel
theorem dX4_setHours_62 : decode cX4_setHours 62 = .ok (.iload_n 1, 1) := by decide +kernel
theorem dX4_setHours_63 : decode cX4_setHours 63 = .ok (.iload_n 3, 1) := by decide +kernel
theorem dX4_setHours_64 : decode cX4_setHours 64 = .ok (.iastore, 1) := by decide +kernel
theorem dX4_setHours_65 : decode cX4_setHours 65 = .ok (.iload_n 3, 1) := by decide +kernel
theorem dX4_setHours_66 : decode cX4_setHours 66 = .ok (.iload_n 2, 1) := by decide +kernel
theorem dX4_setHours_67 : decode cX4_setHours 67 = .ok (.isub, 1) := by decide +kernel
theorem dX4_setHours_68 : decode cX4_setHours 68 = .ok (.ireturn, 1) := by decide +kernel
theorem dX4_addBadge_0 : decode cX4_addBadge 0 = .ok (.iload_n 1, 1) := by decide +kernel
theorem dX4_addBadge_1 : decode cX4_addBadge 1 = .ok (.ifCond .lt 8, 3) := by decide +kernel
theorem dX4_addBadge_4 : decode cX4_addBadge 4 = .ok (.iload_n 1, 1) := by decide +kernel
theorem dX4_addBadge_5 : decode cX4_addBadge 5 = .ok (.iconst 4, 1) := by decide +kernel
theorem dX4_addBadge_6 : decode cX4_addBadge 6 = .ok (.if_icmp .lt 13, 3) := by decide +kernel
theorem dX4_addBadge_9 : decode cX4_addBadge 9 = .ok (.new 51, 3) := by decide +kernel
theorem dX4_addBadge_12 : decode cX4_addBadge 12 = .ok (.dup, 1) := by decide +kernel
theorem dX4_addBadge_13 : decode cX4_addBadge 13 = .ok (.ldc 84, 2) := by decide +kernel
theorem dX4_addBadge_15 : decode cX4_addBadge 15 = .ok (.invokespecial 55, 3) := by decide +kernel
theorem dX4_addBadge_18 : decode cX4_addBadge 18 = .ok (.athrow, 1) := by decide +kernel
theorem dX4_addBadge_19 : decode cX4_addBadge 19 = .ok (.aload_n 0, 1) := by decide +kernel
theorem dX4_addBadge_20 : decode cX4_addBadge 20 = .ok (.getfield 22, 3) := by decide +kernel
theorem dX4_addBadge_23 : decode cX4_addBadge 23 = .ok (.invokevirtual 58, 3) := by decide +kernel
theorem dX4_addBadge_26 : decode cX4_addBadge 26 = .ok (.bipush 8, 2) := by decide +kernel
theorem dX4_addBadge_28 : decode cX4_addBadge 28 = .ok (.if_icmp .lt 13, 3) := by decide +kernel
theorem dX4_addBadge_31 : decode cX4_addBadge 31 = .ok (.new 62, 3) := by decide +kernel
theorem dX4_addBadge_34 : decode cX4_addBadge 34 = .ok (.dup, 1) := by decide +kernel
theorem dX4_addBadge_35 : decode cX4_addBadge 35 = .ok (.ldc 88, 2) := by decide +kernel
theorem dX4_addBadge_37 : decode cX4_addBadge 37 = .ok (.invokespecial 66, 3) := by decide +kernel
theorem dX4_addBadge_40 : decode cX4_addBadge 40 = .ok (.athrow, 1) := by decide +kernel
theorem dX4_addBadge_41 : decode cX4_addBadge 41 = .ok (.aload_n 0, 1) := by decide +kernel
theorem dX4_addBadge_42 : decode cX4_addBadge 42 = .ok (.getfield 22, 3) := by decide +kernel
theorem dX4_addBadge_45 : decode cX4_addBadge 45 = .ok (.invokevirtual 58, 3) := by decide +kernel
theorem dX4_addBadge_48 : decode cX4_addBadge 48 = .ok (.istore_n 2, 1) := by decide +kernel
theorem dX4_addBadge_49 : decode cX4_addBadge 49 = .ok (.aload_n 0, 1) := by decide +kernel
theorem dX4_addBadge_50 : decode cX4_addBadge 50 = .ok (.getfield 22, 3) := by decide +kernel
theorem dX4_addBadge_53 : decode cX4_addBadge 53 = .ok (.new 90, 3) := by decide +kernel
theorem dX4_addBadge_56 : decode cX4_addBadge 56 = .ok (.dup, 1) := by decide +kernel
theorem dX4_addBadge_57 : decode cX4_addBadge 57 = .ok (.iload_n 1, 1) := by decide +kernel
theorem dX4_addBadge_58 : decode cX4_addBadge 58 = .ok (.invokespecial 92, 3) := by decide +kernel
theorem dX4_addBadge_61 : decode cX4_addBadge 61 = .ok (.invokevirtual 72, 3) := by decide +kernel
theorem dX4_addBadge_64 : decode cX4_addBadge 64 = .ok (.pop, 1) := by decide +kernel
theorem dX4_addBadge_65 : decode cX4_addBadge 65 = .ok (.iload_n 2, 1) := by decide +kernel
theorem dX4_addBadge_66 : decode cX4_addBadge 66 = .ok (.ireturn, 1) := by decide +kernel
theorem dX4_setRevoked_0 : decode cX4_setRevoked 0 = .ok (.aload_n 0, 1) := by decide +kernel
theorem dX4_setRevoked_1 : decode cX4_setRevoked 1 = .ok (.iload_n 1, 1) := by decide +kernel
theorem dX4_setRevoked_2 : decode cX4_setRevoked 2 = .ok (.invokevirtual 95, 3) := by decide +kernel
theorem dX4_setRevoked_5 : decode cX4_setRevoked 5 = .ok (.astore_n 3, 1) := by decide +kernel
theorem dX4_setRevoked_6 : decode cX4_setRevoked 6 = .ok (.aload_n 3, 1) := by decide +kernel
theorem dX4_setRevoked_7 : decode cX4_setRevoked 7 = .ok (.getfield 99, 3) := by decide +kernel
theorem dX4_setRevoked_10 : decode cX4_setRevoked 10 = .ok (.istore 4, 2) := by decide +kernel
theorem dX4_setRevoked_12 : decode cX4_setRevoked 12 = .ok (.aload_n 3, 1) := by decide +kernel
theorem dX4_setRevoked_13 : decode cX4_setRevoked 13 = .ok (.iload_n 2, 1) := by decide +kernel
theorem dX4_setRevoked_14 : decode cX4_setRevoked 14 = .ok (.putfield 99, 3) := by decide +kernel
theorem dX4_setRevoked_17 : decode cX4_setRevoked 17 = .ok (.iload 4, 2) := by decide +kernel
theorem dX4_setRevoked_19 : decode cX4_setRevoked 19 = .ok (.ireturn, 1) := by decide +kernel
theorem dX4_reason_0 : decode cX4_reason 0 = .ok (.aload_n 0, 1) := by decide +kernel
theorem dX4_reason_1 : decode cX4_reason 1 = .ok (.iload_n 1, 1) := by decide +kernel
theorem dX4_reason_2 : decode cX4_reason 2 = .ok (.invokevirtual 95, 3) := by decide +kernel
theorem dX4_reason_5 : decode cX4_reason 5 = .ok (.astore_n 3, 1) := by decide +kernel
theorem dX4_reason_6 : decode cX4_reason 6 = .ok (.iload_n 2, 1) := by decide +kernel
theorem dX4_reason_7 : decode cX4_reason 7 = .ok (.invokestatic 103, 3) := by decide +kernel
theorem dX4_reason_10 : decode cX4_reason 10 = .ok (.aload_n 0, 1) := by decide +kernel
theorem dX4_reason_11 : decode cX4_reason 11 = .ok (.aload_n 3, 1) := by decide +kernel
theorem dX4_reason_12 : decode cX4_reason 12 = .ok (.iload_n 2, 1) := by decide +kernel
theorem dX4_reason_13 : decode cX4_reason 13 = .ok (.invokevirtual 106, 3) := by decide +kernel
theorem dX4_reason_16 : decode cX4_reason 16 = .ok (.ireturn, 1) := by decide +kernel
theorem dX4_call_0 : decode cX4_call 0 = .ok (.aload_n 0, 1) := by decide +kernel
theorem dX4_call_1 : decode cX4_call 1 = .ok (.iload_n 1, 1) := by decide +kernel
theorem dX4_call_2 : decode cX4_call 2 = .ok (.invokevirtual 95, 3) := by decide +kernel
theorem dX4_call_5 : decode cX4_call 5 = .ok (.astore 4, 2) := by decide +kernel
theorem dX4_call_7 : decode cX4_call 7 = .ok (.iload_n 2, 1) := by decide +kernel
theorem dX4_call_8 : decode cX4_call 8 = .ok (.invokestatic 103, 3) := by decide +kernel
theorem dX4_call_11 : decode cX4_call 11 = .ok (.iload_n 3, 1) := by decide +kernel
theorem dX4_call_12 : decode cX4_call 12 = .ok (.invokestatic 103, 3) := by decide +kernel
theorem dX4_call_15 : decode cX4_call 15 = .ok (.iload_n 2, 1) := by decide +kernel
theorem dX4_call_16 : decode cX4_call 16 = .ok (.iload_n 3, 1) := by decide +kernel
theorem dX4_call_17 : decode cX4_call 17 = .ok (.if_icmp .ne 13, 3) := by decide +kernel
theorem dX4_call_20 : decode cX4_call 20 = .ok (.new 51, 3) := by decide +kernel
theorem dX4_call_23 : decode cX4_call 23 = .ok (.dup, 1) := by decide +kernel
theorem dX4_call_24 : decode cX4_call 24 = .ok (.ldc 110, 2) := by decide +kernel
theorem dX4_call_26 : decode cX4_call 26 = .ok (.invokespecial 55, 3) := by decide +kernel
theorem dX4_call_29 : decode cX4_call 29 = .ok (.athrow, 1) := by decide +kernel
theorem dX4_call_30 : decode cX4_call 30 = .ok (.aload_n 0, 1) := by decide +kernel
theorem dX4_call_31 : decode cX4_call 31 = .ok (.aload 4, 2) := by decide +kernel
theorem dX4_call_33 : decode cX4_call 33 = .ok (.iload_n 3, 1) := by decide +kernel
theorem dX4_call_34 : decode cX4_call 34 = .ok (.invokevirtual 106, 3) := by decide +kernel
theorem dX4_call_37 : decode cX4_call 37 = .ok (.bipush 110, 2) := by decide +kernel
theorem dX4_call_39 : decode cX4_call 39 = .ok (.if_icmp .eq 13, 3) := by decide +kernel
theorem dX4_call_42 : decode cX4_call 42 = .ok (.new 112, 3) := by decide +kernel
theorem dX4_call_45 : decode cX4_call 45 = .ok (.dup, 1) := by decide +kernel
theorem dX4_call_46 : decode cX4_call 46 = .ok (.ldc 114, 2) := by decide +kernel
theorem dX4_call_48 : decode cX4_call 48 = .ok (.invokespecial 116, 3) := by decide +kernel
theorem dX4_call_51 : decode cX4_call 51 = .ok (.athrow, 1) := by decide +kernel
theorem dX4_call_52 : decode cX4_call 52 = .ok (.aload_n 0, 1) := by decide +kernel
theorem dX4_call_53 : decode cX4_call 53 = .ok (.aload 4, 2) := by decide +kernel
theorem dX4_call_55 : decode cX4_call 55 = .ok (.invokevirtual 117, 3) := by decide +kernel
theorem dX4_call_58 : decode cX4_call 58 = .ok (.ifCond .ne 23, 3) := by decide +kernel
theorem dX4_call_61 : decode cX4_call 61 = .ok (.aload_n 0, 1) := by decide +kernel
theorem dX4_call_62 : decode cX4_call 62 = .ok (.getfield 42, 3) := by decide +kernel
theorem dX4_call_65 : decode cX4_call 65 = .ok (.iconst (-1), 1) := by decide +kernel
theorem dX4_call_66 : decode cX4_call 66 = .ok (.if_icmp .ne 15, 3) := by decide +kernel
theorem dX4_call_69 : decode cX4_call 69 = .ok (.aload_n 0, 1) := by decide +kernel
theorem dX4_call_70 : decode cX4_call 70 = .ok (.getfield 29, 3) := by decide +kernel
theorem dX4_call_73 : decode cX4_call 73 = .ok (.invokevirtual 58, 3) := by decide +kernel
theorem dX4_call_76 : decode cX4_call 76 = .ok (.bipush 30, 2) := by decide +kernel
theorem dX4_call_78 : decode cX4_call 78 = .ok (.if_icmp .lt 13, 3) := by decide +kernel
theorem dX4_call_81 : decode cX4_call 81 = .ok (.new 62, 3) := by decide +kernel
theorem dX4_call_84 : decode cX4_call 84 = .ok (.dup, 1) := by decide +kernel
theorem dX4_call_85 : decode cX4_call 85 = .ok (.ldc 121, 2) := by decide +kernel
theorem dX4_call_87 : decode cX4_call 87 = .ok (.invokespecial 66, 3) := by decide +kernel
theorem dX4_call_90 : decode cX4_call 90 = .ok (.athrow, 1) := by decide +kernel
theorem dX4_call_91 : decode cX4_call 91 = .ok (.new 123, 3) := by decide +kernel
theorem dX4_call_94 : decode cX4_call 94 = .ok (.dup, 1) := by decide +kernel
theorem dX4_call_95 : decode cX4_call 95 = .ok (.aload_n 0, 1) := by decide +kernel
theorem dX4_call_96 : decode cX4_call 96 = .ok (.getfield 29, 3) := by decide +kernel
theorem dX4_call_99 : decode cX4_call 99 = .ok (.invokevirtual 58, 3) := by decide +kernel
theorem dX4_call_102 : decode cX4_call 102 = .ok (.aload 4, 2) := by decide +kernel
theorem dX4_call_104 : decode cX4_call 104 = .ok (.iload_n 2, 1) := by decide +kernel
theorem dX4_call_105 : decode cX4_call 105 = .ok (.iload_n 3, 1) := by decide +kernel
theorem dX4_call_106 : decode cX4_call 106 = .ok (.invokespecial 125, 3) := by decide +kernel
theorem dX4_call_109 : decode cX4_call 109 = .ok (.astore 5, 2) := by decide +kernel
theorem dX4_call_111 : decode cX4_call 111 = .ok (.aload_n 0, 1) := by decide +kernel
theorem dX4_call_112 : decode cX4_call 112 = .ok (.getfield 29, 3) := by decide +kernel
theorem dX4_call_115 : decode cX4_call 115 = .ok (.aload 5, 2) := by decide +kernel
theorem dX4_call_117 : decode cX4_call 117 = .ok (.invokevirtual 72, 3) := by decide +kernel
theorem dX4_call_120 : decode cX4_call 120 = .ok (.pop, 1) := by decide +kernel
theorem dX4_call_121 : decode cX4_call 121 = .ok (.aload_n 0, 1) := by decide +kernel
theorem dX4_call_122 : decode cX4_call 122 = .ok (.getfield 32, 3) := by decide +kernel
theorem dX4_call_125 : decode cX4_call 125 = .ok (.aload 5, 2) := by decide +kernel
theorem dX4_call_127 : decode cX4_call 127 = .ok (.invokevirtual 72, 3) := by decide +kernel
theorem dX4_call_130 : decode cX4_call 130 = .ok (.pop, 1) := by decide +kernel
theorem dX4_call_131 : decode cX4_call 131 = .ok (.aload_n 0, 1) := by decide +kernel
theorem dX4_call_132 : decode cX4_call 132 = .ok (.aload 5, 2) := by decide +kernel
theorem dX4_call_134 : decode cX4_call 134 = .ok (.invokevirtual 128, 3) := by decide +kernel
theorem dX4_call_137 : decode cX4_call 137 = .ok (.aload_n 0, 1) := by decide +kernel
theorem dX4_call_138 : decode cX4_call 138 = .ok (.aload 5, 2) := by decide +kernel
theorem dX4_call_140 : decode cX4_call 140 = .ok (.invokevirtual 132, 3) := by decide +kernel
theorem dX4_call_143 : decode cX4_call 143 = .ok (.aload 5, 2) := by decide +kernel
theorem dX4_call_145 : decode cX4_call 145 = .ok (.getfield 135, 3) := by decide +kernel
theorem dX4_call_148 : decode cX4_call 148 = .ok (.ireturn, 1) := by decide +kernel
theorem dX4_state_0 : decode cX4_state 0 = .ok (.aload_n 0, 1) := by decide +kernel
theorem dX4_state_1 : decode cX4_state 1 = .ok (.iload_n 1, 1) := by decide +kernel
theorem dX4_state_2 : decode cX4_state 2 = .ok (.invokevirtual 136, 3) := by decide +kernel
theorem dX4_state_5 : decode cX4_state 5 = .ok (.getfield 140, 3) := by decide +kernel
theorem dX4_state_8 : decode cX4_state 8 = .ok (.ireturn, 1) := by decide +kernel
theorem dX4_floorOf_0 : decode cX4_floorOf 0 = .ok (.aload_n 0, 1) := by decide +kernel
theorem dX4_floorOf_1 : decode cX4_floorOf 1 = .ok (.iload_n 1, 1) := by decide +kernel
theorem dX4_floorOf_2 : decode cX4_floorOf 2 = .ok (.invokevirtual 136, 3) := by decide +kernel
theorem dX4_floorOf_5 : decode cX4_floorOf 5 = .ok (.astore_n 2, 1) := by decide +kernel
theorem dX4_floorOf_6 : decode cX4_floorOf 6 = .ok (.aload_n 2, 1) := by decide +kernel
theorem dX4_floorOf_7 : decode cX4_floorOf 7 = .ok (.getfield 140, 3) := by decide +kernel
theorem dX4_floorOf_10 : decode cX4_floorOf 10 = .ok (.bipush 97, 2) := by decide +kernel
theorem dX4_floorOf_12 : decode cX4_floorOf 12 = .ok (.if_icmp .ne 18, 3) := by decide +kernel
theorem dX4_floorOf_15 : decode cX4_floorOf 15 = .ok (.aload_n 2, 1) := by decide +kernel
theorem dX4_floorOf_16 : decode cX4_floorOf 16 = .ok (.getfield 144, 3) := by decide +kernel
theorem dX4_floorOf_19 : decode cX4_floorOf 19 = .ok (.ifnull 11, 3) := by decide +kernel
theorem dX4_floorOf_22 : decode cX4_floorOf 22 = .ok (.aload_n 2, 1) := by decide +kernel
theorem dX4_floorOf_23 : decode cX4_floorOf 23 = .ok (.getfield 144, 3) := by decide +kernel
theorem dX4_floorOf_26 : decode cX4_floorOf 26 = .ok (.getfield 148, 3) := by decide +kernel
theorem dX4_floorOf_29 : decode cX4_floorOf 29 = .ok (.ireturn, 1) := by decide +kernel
theorem dX4_floorOf_30 : decode cX4_floorOf 30 = .ok (.aload_n 2, 1) := by decide +kernel
theorem dX4_floorOf_31 : decode cX4_floorOf 31 = .ok (.getfield 151, 3) := by decide +kernel
theorem dX4_floorOf_34 : decode cX4_floorOf 34 = .ok (.ireturn, 1) := by decide +kernel
theorem dX4_aim_0 : decode cX4_aim 0 = .ok (.aload_n 0, 1) := by decide +kernel
theorem dX4_aim_1 : decode cX4_aim 1 = .ok (.iload_n 1, 1) := by decide +kernel
theorem dX4_aim_2 : decode cX4_aim 2 = .ok (.invokevirtual 136, 3) := by decide +kernel
theorem dX4_aim_5 : decode cX4_aim 5 = .ok (.getfield 152, 3) := by decide +kernel
theorem dX4_aim_8 : decode cX4_aim 8 = .ok (.ireturn, 1) := by decide +kernel
theorem dX4_liftOf_0 : decode cX4_liftOf 0 = .ok (.aload_n 0, 1) := by decide +kernel
theorem dX4_liftOf_1 : decode cX4_liftOf 1 = .ok (.iload_n 1, 1) := by decide +kernel
theorem dX4_liftOf_2 : decode cX4_liftOf 2 = .ok (.invokevirtual 136, 3) := by decide +kernel
theorem dX4_liftOf_5 : decode cX4_liftOf 5 = .ok (.astore_n 2, 1) := by decide +kernel
theorem dX4_liftOf_6 : decode cX4_liftOf 6 = .ok (.aload_n 2, 1) := by decide +kernel
theorem dX4_liftOf_7 : decode cX4_liftOf 7 = .ok (.getfield 144, 3) := by decide +kernel
theorem dX4_liftOf_10 : decode cX4_liftOf 10 = .ok (.ifnonnull 13, 3) := by decide +kernel
theorem dX4_liftOf_13 : decode cX4_liftOf 13 = .ok (.new 155, 3) := by decide +kernel
theorem dX4_liftOf_16 : decode cX4_liftOf 16 = .ok (.dup, 1) := by decide +kernel
theorem dX4_liftOf_17 : decode cX4_liftOf 17 = .ok (.ldc 157, 2) := by decide +kernel
theorem dX4_liftOf_19 : decode cX4_liftOf 19 = .ok (.invokespecial 159, 3) := by decide +kernel
theorem dX4_liftOf_22 : decode cX4_liftOf 22 = .ok (.athrow, 1) := by decide +kernel
theorem dX4_liftOf_23 : decode cX4_liftOf 23 = .ok (.aload_n 2, 1) := by decide +kernel
theorem dX4_liftOf_24 : decode cX4_liftOf 24 = .ok (.getfield 144, 3) := by decide +kernel
theorem dX4_liftOf_27 : decode cX4_liftOf 27 = .ok (.getfield 76, 3) := by decide +kernel
theorem dX4_liftOf_30 : decode cX4_liftOf 30 = .ok (.ireturn, 1) := by decide +kernel
theorem dX4_waited_0 : decode cX4_waited 0 = .ok (.aload_n 0, 1) := by decide +kernel
theorem dX4_waited_1 : decode cX4_waited 1 = .ok (.iload_n 1, 1) := by decide +kernel
theorem dX4_waited_2 : decode cX4_waited 2 = .ok (.invokevirtual 136, 3) := by decide +kernel
theorem dX4_waited_5 : decode cX4_waited 5 = .ok (.getfield 160, 3) := by decide +kernel
theorem dX4_waited_8 : decode cX4_waited 8 = .ok (.ireturn, 1) := by decide +kernel
theorem dX4_waitedByLog_0 : decode cX4_waitedByLog 0 = .ok (.aload_n 0, 1) := by decide +kernel
theorem dX4_waitedByLog_1 : decode cX4_waitedByLog 1 = .ok (.aload_n 0, 1) := by decide +kernel
theorem dX4_waitedByLog_2 : decode cX4_waitedByLog 2 = .ok (.iload_n 1, 1) := by decide +kernel
theorem dX4_waitedByLog_3 : decode cX4_waitedByLog 3 = .ok (.invokevirtual 136, 3) := by decide +kernel
theorem dX4_waitedByLog_6 : decode cX4_waitedByLog 6 = .ok (.invokevirtual 163, 3) := by decide +kernel
theorem dX4_waitedByLog_9 : decode cX4_waitedByLog 9 = .ok (.ireturn, 1) := by decide +kernel
theorem dX4_entries_0 : decode cX4_entries 0 = .ok (.aload_n 0, 1) := by decide +kernel
theorem dX4_entries_1 : decode cX4_entries 1 = .ok (.getfield 35, 3) := by decide +kernel
theorem dX4_entries_4 : decode cX4_entries 4 = .ok (.invokevirtual 58, 3) := by decide +kernel
theorem dX4_entries_7 : decode cX4_entries 7 = .ok (.ireturn, 1) := by decide +kernel
theorem dX4_callOff_0 : decode cX4_callOff 0 = .ok (.aload_n 0, 1) := by decide +kernel
theorem dX4_callOff_1 : decode cX4_callOff 1 = .ok (.iload_n 1, 1) := by decide +kernel
theorem dX4_callOff_2 : decode cX4_callOff 2 = .ok (.invokevirtual 167, 3) := by decide +kernel
theorem dX4_callOff_5 : decode cX4_callOff 5 = .ok (.astore_n 2, 1) := by decide +kernel
theorem dX4_callOff_6 : decode cX4_callOff 6 = .ok (.aload_n 2, 1) := by decide +kernel
theorem dX4_callOff_7 : decode cX4_callOff 7 = .ok (.getfield 171, 3) := by decide +kernel
theorem dX4_callOff_10 : decode cX4_callOff 10 = .ok (.bipush 115, 2) := by decide +kernel
theorem dX4_callOff_12 : decode cX4_callOff 12 = .ok (.if_icmp .ne 11, 3) := by decide +kernel
theorem dX4_callOff_15 : decode cX4_callOff 15 = .ok (.aload_n 0, 1) := by decide +kernel
theorem dX4_callOff_16 : decode cX4_callOff 16 = .ok (.getfield 42, 3) := by decide +kernel
theorem dX4_callOff_19 : decode cX4_callOff 19 = .ok (.iconst (-1), 1) := by decide +kernel
theorem dX4_callOff_20 : decode cX4_callOff 20 = .ok (.if_icmp .eq 13, 3) := by decide +kernel
theorem dX4_callOff_23 : decode cX4_callOff 23 = .ok (.new 62, 3) := by decide +kernel
theorem dX4_callOff_26 : decode cX4_callOff 26 = .ok (.dup, 1) := by decide +kernel
theorem dX4_callOff_27 : decode cX4_callOff 27 = .ok (.ldc 174, 2) := by decide +kernel
theorem dX4_callOff_29 : decode cX4_callOff 29 = .ok (.invokespecial 66, 3) := by decide +kernel
theorem dX4_callOff_32 : decode cX4_callOff 32 = .ok (.athrow, 1) := by decide +kernel
theorem dX4_callOff_33 : decode cX4_callOff 33 = .ok (.aload_n 2, 1) := by decide +kernel
theorem dX4_callOff_34 : decode cX4_callOff 34 = .ok (.bipush 111, 2) := by decide +kernel
theorem dX4_callOff_36 : decode cX4_callOff 36 = .ok (.putfield 171, 3) := by decide +kernel
theorem dX4_callOff_39 : decode cX4_callOff 39 = .ok (.aload_n 0, 1) := by decide +kernel
theorem dX4_callOff_40 : decode cX4_callOff 40 = .ok (.aload_n 2, 1) := by decide +kernel
theorem dX4_callOff_41 : decode cX4_callOff 41 = .ok (.invokevirtual 176, 3) := by decide +kernel
theorem dX4_callOff_44 : decode cX4_callOff 44 = .ok (.ireturn, 1) := by decide +kernel
theorem dX4_service_0 : decode cX4_service 0 = .ok (.aload_n 0, 1) := by decide +kernel
theorem dX4_service_1 : decode cX4_service 1 = .ok (.iload_n 1, 1) := by decide +kernel
theorem dX4_service_2 : decode cX4_service 2 = .ok (.invokevirtual 167, 3) := by decide +kernel
theorem dX4_service_5 : decode cX4_service 5 = .ok (.getfield 171, 3) := by decide +kernel
theorem dX4_service_8 : decode cX4_service 8 = .ok (.ireturn, 1) := by decide +kernel
theorem dX4_floorOfLift_0 : decode cX4_floorOfLift 0 = .ok (.aload_n 0, 1) := by decide +kernel
theorem dX4_floorOfLift_1 : decode cX4_floorOfLift 1 = .ok (.iload_n 1, 1) := by decide +kernel
theorem dX4_floorOfLift_2 : decode cX4_floorOfLift 2 = .ok (.invokevirtual 167, 3) := by decide +kernel
theorem dX4_floorOfLift_5 : decode cX4_floorOfLift 5 = .ok (.getfield 148, 3) := by decide +kernel
theorem dX4_floorOfLift_8 : decode cX4_floorOfLift 8 = .ok (.ireturn, 1) := by decide +kernel
theorem dX4_isUp_0 : decode cX4_isUp 0 = .ok (.aload_n 0, 1) := by decide +kernel
theorem dX4_isUp_1 : decode cX4_isUp 1 = .ok (.iload_n 1, 1) := by decide +kernel
theorem dX4_isUp_2 : decode cX4_isUp 2 = .ok (.invokevirtual 167, 3) := by decide +kernel
theorem dX4_isUp_5 : decode cX4_isUp 5 = .ok (.getfield 180, 3) := by decide +kernel
theorem dX4_isUp_8 : decode cX4_isUp 8 = .ok (.ireturn, 1) := by decide +kernel
theorem dX4_aboard_0 : decode cX4_aboard 0 = .ok (.aload_n 0, 1) := by decide +kernel
theorem dX4_aboard_1 : decode cX4_aboard 1 = .ok (.aload_n 0, 1) := by decide +kernel
theorem dX4_aboard_2 : decode cX4_aboard 2 = .ok (.iload_n 1, 1) := by decide +kernel
theorem dX4_aboard_3 : decode cX4_aboard 3 = .ok (.invokevirtual 167, 3) := by decide +kernel
theorem dX4_aboard_6 : decode cX4_aboard 6 = .ok (.invokevirtual 183, 3) := by decide +kernel
theorem dX4_aboard_9 : decode cX4_aboard 9 = .ok (.ireturn, 1) := by decide +kernel
theorem dX4_score_0 : decode cX4_score 0 = .ok (.aload_n 0, 1) := by decide +kernel
theorem dX4_score_1 : decode cX4_score 1 = .ok (.iload_n 1, 1) := by decide +kernel
theorem dX4_score_2 : decode cX4_score 2 = .ok (.invokevirtual 167, 3) := by decide +kernel
theorem dX4_score_5 : decode cX4_score 5 = .ok (.astore_n 3, 1) := by decide +kernel
theorem dX4_score_6 : decode cX4_score 6 = .ok (.iload_n 2, 1) := by decide +kernel
theorem dX4_score_7 : decode cX4_score 7 = .ok (.invokestatic 103, 3) := by decide +kernel
theorem dX4_score_10 : decode cX4_score 10 = .ok (.aload_n 0, 1) := by decide +kernel
theorem dX4_score_11 : decode cX4_score 11 = .ok (.aload_n 3, 1) := by decide +kernel
theorem dX4_score_12 : decode cX4_score 12 = .ok (.iload_n 2, 1) := by decide +kernel
theorem dX4_score_13 : decode cX4_score 13 = .ok (.invokevirtual 186, 3) := by decide +kernel
theorem dX4_score_16 : decode cX4_score 16 = .ok (.ireturn, 1) := by decide +kernel
theorem dX4_pass_0 : decode cX4_pass 0 = .ok (.iload_n 1, 1) := by decide +kernel
theorem dX4_pass_1 : decode cX4_pass 1 = .ok (.iconst 1, 1) := by decide +kernel
theorem dX4_pass_2 : decode cX4_pass 2 = .ok (.if_icmp .lt 9, 3) := by decide +kernel
theorem dX4_pass_5 : decode cX4_pass 5 = .ok (.iload_n 1, 1) := by decide +kernel
theorem dX4_pass_6 : decode cX4_pass 6 = .ok (.bipush 100, 2) := by decide +kernel
theorem dX4_pass_8 : decode cX4_pass 8 = .ok (.if_icmp .le 13, 3) := by decide +kernel
theorem dX4_pass_11 : decode cX4_pass 11 = .ok (.new 51, 3) := by decide +kernel
theorem dX4_pass_14 : decode cX4_pass 14 = .ok (.dup, 1) := by decide +kernel
theorem dX4_pass_15 : decode cX4_pass 15 = .ok (.ldc 190, 2) := by decide +kernel
theorem dX4_pass_17 : decode cX4_pass 17 = .ok (.invokespecial 55, 3) := by decide +kernel
theorem dX4_pass_20 : decode cX4_pass 20 = .ok (.athrow, 1) := by decide +kernel
theorem dX4_pass_21 : decode cX4_pass 21 = .ok (.aload_n 0, 1) := by decide +kernel
theorem dX4_pass_22 : decode cX4_pass 22 = .ok (.getfield 32, 3) := by decide +kernel
theorem dX4_pass_25 : decode cX4_pass 25 = .ok (.invokevirtual 58, 3) := by decide +kernel
theorem dX4_pass_28 : decode cX4_pass 28 = .ok (.istore_n 2, 1) := by decide +kernel
theorem dX4_pass_29 : decode cX4_pass 29 = .ok (.iconst 0, 1) := by decide +kernel
theorem dX4_pass_30 : decode cX4_pass 30 = .ok (.istore_n 3, 1) := by decide +kernel
theorem dX4_pass_31 : decode cX4_pass 31 = .ok (.iload_n 3, 1) := by decide +kernel
theorem dX4_pass_32 : decode cX4_pass 32 = .ok (.iload_n 1, 1) := by decide +kernel
theorem dX4_pass_33 : decode cX4_pass 33 = .ok (.if_icmp .ge 13, 3) := by decide +kernel
theorem dX4_pass_36 : decode cX4_pass 36 = .ok (.aload_n 0, 1) := by decide +kernel
theorem dX4_pass_37 : decode cX4_pass 37 = .ok (.invokevirtual 192, 3) := by decide +kernel
theorem dX4_pass_40 : decode cX4_pass 40 = .ok (.iinc 3 1, 3) := by decide +kernel
theorem dX4_pass_43 : decode cX4_pass 43 = .ok (.goto (-12), 3) := by decide +kernel
theorem dX4_pass_46 : decode cX4_pass 46 = .ok (.iload_n 2, 1) := by decide +kernel
theorem dX4_pass_47 : decode cX4_pass 47 = .ok (.aload_n 0, 1) := by decide +kernel
theorem dX4_pass_48 : decode cX4_pass 48 = .ok (.getfield 32, 3) := by decide +kernel
theorem dX4_pass_51 : decode cX4_pass 51 = .ok (.invokevirtual 58, 3) := by decide +kernel
theorem dX4_pass_54 : decode cX4_pass 54 = .ok (.isub, 1) := by decide +kernel
theorem dX4_pass_55 : decode cX4_pass 55 = .ok (.ireturn, 1) := by decide +kernel
theorem dX4_time_0 : decode cX4_time 0 = .ok (.aload_n 0, 1) := by decide +kernel
theorem dX4_time_1 : decode cX4_time 1 = .ok (.getfield 38, 3) := by decide +kernel
theorem dX4_time_4 : decode cX4_time 4 = .ok (.ireturn, 1) := by decide +kernel
theorem dX4_alarm_0 : decode cX4_alarm 0 = .ok (.iload_n 1, 1) := by decide +kernel
theorem dX4_alarm_1 : decode cX4_alarm 1 = .ok (.invokestatic 103, 3) := by decide +kernel
theorem dX4_alarm_4 : decode cX4_alarm 4 = .ok (.aload_n 0, 1) := by decide +kernel
theorem dX4_alarm_5 : decode cX4_alarm 5 = .ok (.getfield 42, 3) := by decide +kernel
theorem dX4_alarm_8 : decode cX4_alarm 8 = .ok (.iconst (-1), 1) := by decide +kernel
theorem dX4_alarm_9 : decode cX4_alarm 9 = .ok (.if_icmp .ne 13, 3) := by decide +kernel
theorem dX4_alarm_12 : decode cX4_alarm 12 = .ok (.aload_n 0, 1) := by decide +kernel
theorem dX4_alarm_13 : decode cX4_alarm 13 = .ok (.getfield 32, 3) := by decide +kernel
theorem dX4_alarm_16 : decode cX4_alarm 16 = .ok (.invokevirtual 195, 3) := by decide +kernel
theorem dX4_alarm_19 : decode cX4_alarm 19 = .ok (.ifCond .eq 13, 3) := by decide +kernel
theorem dX4_alarm_22 : decode cX4_alarm 22 = .ok (.new 62, 3) := by decide +kernel
theorem dX4_alarm_25 : decode cX4_alarm 25 = .ok (.dup, 1) := by decide +kernel
theorem dX4_alarm_26 : decode cX4_alarm 26 = .ok (.ldc 199, 2) := by decide +kernel
theorem dX4_alarm_28 : decode cX4_alarm 28 = .ok (.invokespecial 66, 3) := by decide +kernel
theorem dX4_alarm_31 : decode cX4_alarm 31 = .ok (.athrow, 1) := by decide +kernel
theorem dX4_alarm_32 : decode cX4_alarm 32 = .ok (.aload_n 0, 1) := by decide +kernel
theorem dX4_alarm_33 : decode cX4_alarm 33 = .ok (.iload_n 1, 1) := by decide +kernel
theorem dX4_alarm_34 : decode cX4_alarm 34 = .ok (.putfield 42, 3) := by decide +kernel
theorem dX4_alarm_37 : decode cX4_alarm 37 = .ok (.aload_n 0, 1) := by decide +kernel
theorem dX4_alarm_38 : decode cX4_alarm 38 = .ok (.invokevirtual 201, 3) := by decide +kernel
theorem dX4_alarm_41 : decode cX4_alarm 41 = .ok (.aload_n 0, 1) := by decide +kernel
theorem dX4_alarm_42 : decode cX4_alarm 42 = .ok (.getfield 32, 3) := by decide +kernel
theorem dX4_alarm_45 : decode cX4_alarm 45 = .ok (.invokevirtual 58, 3) := by decide +kernel
theorem dX4_alarm_48 : decode cX4_alarm 48 = .ok (.ireturn, 1) := by decide +kernel
theorem dX4_isAlarm_0 : decode cX4_isAlarm 0 = .ok (.aload_n 0, 1) := by decide +kernel
theorem dX4_isAlarm_1 : decode cX4_isAlarm 1 = .ok (.getfield 42, 3) := by decide +kernel
theorem dX4_isAlarm_4 : decode cX4_isAlarm 4 = .ok (.iconst (-1), 1) := by decide +kernel
theorem dX4_isAlarm_5 : decode cX4_isAlarm 5 = .ok (.if_icmp .eq 7, 3) := by decide +kernel
theorem dX4_isAlarm_8 : decode cX4_isAlarm 8 = .ok (.iconst 1, 1) := by decide +kernel
theorem dX4_isAlarm_9 : decode cX4_isAlarm 9 = .ok (.goto 4, 3) := by decide +kernel
theorem dX4_isAlarm_12 : decode cX4_isAlarm 12 = .ok (.iconst 0, 1) := by decide +kernel
theorem dX4_isAlarm_13 : decode cX4_isAlarm 13 = .ok (.ireturn, 1) := by decide +kernel
theorem dX4_turn_0 : decode cX4_turn 0 = .ok (.aload_n 0, 1) := by decide +kernel
theorem dX4_turn_1 : decode cX4_turn 1 = .ok (.invokevirtual 204, 3) := by decide +kernel
theorem dX4_turn_4 : decode cX4_turn 4 = .ok (.istore_n 1, 1) := by decide +kernel
theorem dX4_turn_5 : decode cX4_turn 5 = .ok (.iload_n 1, 1) := by decide +kernel
theorem dX4_turn_6 : decode cX4_turn 6 = .ok (.iconst (-1), 1) := by decide +kernel
theorem dX4_turn_7 : decode cX4_turn 7 = .ok (.if_icmp .ne 13, 3) := by decide +kernel
theorem dX4_turn_10 : decode cX4_turn 10 = .ok (.new 155, 3) := by decide +kernel
theorem dX4_turn_13 : decode cX4_turn 13 = .ok (.dup, 1) := by decide +kernel
theorem dX4_turn_14 : decode cX4_turn 14 = .ok (.ldc 207, 2) := by decide +kernel
theorem dX4_turn_16 : decode cX4_turn 16 = .ok (.invokespecial 159, 3) := by decide +kernel
theorem dX4_turn_19 : decode cX4_turn 19 = .ok (.athrow, 1) := by decide +kernel
theorem dX4_turn_20 : decode cX4_turn 20 = .ok (.iload_n 1, 1) := by decide +kernel
theorem dX4_turn_21 : decode cX4_turn 21 = .ok (.ireturn, 1) := by decide +kernel
theorem dX4_opened_0 : decode cX4_opened 0 = .ok (.aload_n 0, 1) := by decide +kernel
theorem dX4_opened_1 : decode cX4_opened 1 = .ok (.getfield 45, 3) := by decide +kernel
theorem dX4_opened_4 : decode cX4_opened 4 = .ok (.ireturn, 1) := by decide +kernel
theorem dX4_refused_0 : decode cX4_refused 0 = .ok (.aload_n 0, 1) := by decide +kernel
theorem dX4_refused_1 : decode cX4_refused 1 = .ok (.getfield 48, 3) := by decide +kernel
theorem dX4_refused_4 : decode cX4_refused 4 = .ok (.ireturn, 1) := by decide +kernel
theorem dX4_doneShare_0 : decode cX4_doneShare 0 = .ok (.aload_n 0, 1) := by decide +kernel
theorem dX4_doneShare_1 : decode cX4_doneShare 1 = .ok (.getfield 29, 3) := by decide +kernel
theorem dX4_doneShare_4 : decode cX4_doneShare 4 = .ok (.invokevirtual 195, 3) := by decide +kernel
theorem dX4_doneShare_7 : decode cX4_doneShare 7 = .ok (.ifCond .eq 13, 3) := by decide +kernel
theorem dX4_doneShare_10 : decode cX4_doneShare 10 = .ok (.new 209, 3) := by decide +kernel
theorem dX4_doneShare_13 : decode cX4_doneShare 13 = .ok (.dup, 1) := by decide +kernel
theorem dX4_doneShare_14 : decode cX4_doneShare 14 = .ok (.ldc 211, 2) := by decide +kernel
theorem dX4_doneShare_16 : decode cX4_doneShare 16 = .ok (.invokespecial 213, 3) := by decide +kernel
theorem dX4_doneShare_19 : decode cX4_doneShare 19 = .ok (.athrow, 1) := by decide +kernel
theorem dX4_doneShare_20 : decode cX4_doneShare 20 = .ok (.aload_n 0, 1) := by decide +kernel
theorem dX4_doneShare_21 : decode cX4_doneShare 21 = .ok (.getfield 29, 3) := by decide +kernel
theorem dX4_doneShare_24 : decode cX4_doneShare 24 = .ok (.invokevirtual 58, 3) := by decide +kernel
theorem dX4_doneShare_27 : decode cX4_doneShare 27 = .ok (.aload_n 0, 1) := by decide +kernel
theorem dX4_doneShare_28 : decode cX4_doneShare 28 = .ok (.getfield 32, 3) := by decide +kernel
theorem dX4_doneShare_31 : decode cX4_doneShare 31 = .ok (.invokevirtual 58, 3) := by decide +kernel
theorem dX4_doneShare_34 : decode cX4_doneShare 34 = .ok (.isub, 1) := by decide +kernel
theorem dX4_doneShare_35 : decode cX4_doneShare 35 = .ok (.istore_n 1, 1) := by decide +kernel
theorem dX4_doneShare_36 : decode cX4_doneShare 36 = .ok (.iload_n 1, 1) := by decide +kernel
theorem dX4_doneShare_37 : decode cX4_doneShare 37 = .ok (.i2f, 1) := by decide +kernel
theorem dX4_doneShare_38 : decode cX4_doneShare 38 = .ok (.aload_n 0, 1) := by decide +kernel
theorem dX4_doneShare_39 : decode cX4_doneShare 39 = .ok (.getfield 29, 3) := by decide +kernel
theorem dX4_doneShare_42 : decode cX4_doneShare 42 = .ok (.invokevirtual 58, 3) := by decide +kernel
theorem dX4_doneShare_45 : decode cX4_doneShare 45 = .ok (.i2f, 1) := by decide +kernel
theorem dX4_doneShare_46 : decode cX4_doneShare 46 = .ok (.fdiv, 1) := by decide +kernel
theorem dX4_doneShare_47 : decode cX4_doneShare 47 = .ok (.freturn, 1) := by decide +kernel
theorem dX4_meanWait_0 : decode cX4_meanWait 0 = .ok (.aload_n 0, 1) := by decide +kernel
theorem dX4_meanWait_1 : decode cX4_meanWait 1 = .ok (.getfield 29, 3) := by decide +kernel
theorem dX4_meanWait_4 : decode cX4_meanWait 4 = .ok (.invokevirtual 195, 3) := by decide +kernel
theorem dX4_meanWait_7 : decode cX4_meanWait 7 = .ok (.ifCond .eq 13, 3) := by decide +kernel
theorem dX4_meanWait_10 : decode cX4_meanWait 10 = .ok (.new 209, 3) := by decide +kernel
theorem dX4_meanWait_13 : decode cX4_meanWait 13 = .ok (.dup, 1) := by decide +kernel
theorem dX4_meanWait_14 : decode cX4_meanWait 14 = .ok (.ldc 211, 2) := by decide +kernel
theorem dX4_meanWait_16 : decode cX4_meanWait 16 = .ok (.invokespecial 213, 3) := by decide +kernel
theorem dX4_meanWait_19 : decode cX4_meanWait 19 = .ok (.athrow, 1) := by decide +kernel
theorem dX4_meanWait_20 : decode cX4_meanWait 20 = .ok (.iconst 0, 1) := by decide +kernel
theorem dX4_meanWait_21 : decode cX4_meanWait 21 = .ok (.istore_n 1, 1) := by decide +kernel
theorem dX4_meanWait_22 : decode cX4_meanWait 22 = .ok (.iconst 0, 1) := by decide +kernel
theorem dX4_meanWait_23 : decode cX4_meanWait 23 = .ok (.istore_n 2, 1) := by decide +kernel
theorem dX4_meanWait_24 : decode cX4_meanWait 24 = .ok (.iload_n 2, 1) := by decide +kernel
theorem dX4_meanWait_25 : decode cX4_meanWait 25 = .ok (.aload_n 0, 1) := by decide +kernel
theorem dX4_meanWait_26 : decode cX4_meanWait 26 = .ok (.getfield 29, 3) := by decide +kernel
theorem dX4_meanWait_29 : decode cX4_meanWait 29 = .ok (.invokevirtual 58, 3) := by decide +kernel
theorem dX4_meanWait_32 : decode cX4_meanWait 32 = .ok (.if_icmp .ge 26, 3) := by decide +kernel
theorem dX4_meanWait_35 : decode cX4_meanWait 35 = .ok (.iload_n 1, 1) := by decide +kernel
theorem dX4_meanWait_36 : decode cX4_meanWait 36 = .ok (.aload_n 0, 1) := by decide +kernel
theorem dX4_meanWait_37 : decode cX4_meanWait 37 = .ok (.getfield 29, 3) := by decide +kernel
theorem dX4_meanWait_40 : decode cX4_meanWait 40 = .ok (.iload_n 2, 1) := by decide +kernel
theorem dX4_meanWait_41 : decode cX4_meanWait 41 = .ok (.invokevirtual 214, 3) := by decide +kernel
theorem dX4_meanWait_44 : decode cX4_meanWait 44 = .ok (.checkcast 123, 3) := by decide +kernel
theorem dX4_meanWait_47 : decode cX4_meanWait 47 = .ok (.getfield 160, 3) := by decide +kernel
theorem dX4_meanWait_50 : decode cX4_meanWait 50 = .ok (.iadd, 1) := by decide +kernel
theorem dX4_meanWait_51 : decode cX4_meanWait 51 = .ok (.istore_n 1, 1) := by decide +kernel
theorem dX4_meanWait_52 : decode cX4_meanWait 52 = .ok (.iinc 2 1, 3) := by decide +kernel
theorem dX4_meanWait_55 : decode cX4_meanWait 55 = .ok (.goto (-31), 3) := by decide +kernel
theorem dX4_meanWait_58 : decode cX4_meanWait 58 = .ok (.iload_n 1, 1) := by decide +kernel
theorem dX4_meanWait_59 : decode cX4_meanWait 59 = .ok (.i2d, 1) := by decide +kernel
theorem dX4_meanWait_60 : decode cX4_meanWait 60 = .ok (.aload_n 0, 1) := by decide +kernel
theorem dX4_meanWait_61 : decode cX4_meanWait 61 = .ok (.getfield 29, 3) := by decide +kernel
theorem dX4_meanWait_64 : decode cX4_meanWait 64 = .ok (.invokevirtual 58, 3) := by decide +kernel
theorem dX4_meanWait_67 : decode cX4_meanWait 67 = .ok (.i2d, 1) := by decide +kernel
theorem dX4_meanWait_68 : decode cX4_meanWait 68 = .ok (.ddiv, 1) := by decide +kernel
theorem dX4_meanWait_69 : decode cX4_meanWait 69 = .ok (.dreturn, 1) := by decide +kernel
theorem dX4_badgeNumbered_0 : decode cX4_badgeNumbered 0 = .ok (.iload_n 1, 1) := by decide +kernel
theorem dX4_badgeNumbered_1 : decode cX4_badgeNumbered 1 = .ok (.ifCond .lt 14, 3) := by decide +kernel
theorem dX4_badgeNumbered_4 : decode cX4_badgeNumbered 4 = .ok (.iload_n 1, 1) := by decide +kernel
theorem dX4_badgeNumbered_5 : decode cX4_badgeNumbered 5 = .ok (.aload_n 0, 1) := by decide +kernel
theorem dX4_badgeNumbered_6 : decode cX4_badgeNumbered 6 = .ok (.getfield 22, 3) := by decide +kernel
theorem dX4_badgeNumbered_9 : decode cX4_badgeNumbered 9 = .ok (.invokevirtual 58, 3) := by decide +kernel
theorem dX4_badgeNumbered_12 : decode cX4_badgeNumbered 12 = .ok (.if_icmp .lt 13, 3) := by decide +kernel
theorem dX4_badgeNumbered_15 : decode cX4_badgeNumbered 15 = .ok (.new 79, 3) := by decide +kernel
theorem dX4_badgeNumbered_18 : decode cX4_badgeNumbered 18 = .ok (.dup, 1) := by decide +kernel
theorem dX4_badgeNumbered_19 : decode cX4_badgeNumbered 19 = .ok (.ldc 218, 2) := by decide +kernel
theorem dX4_badgeNumbered_21 : decode cX4_badgeNumbered 21 = .ok (.invokespecial 83, 3) := by decide +kernel
theorem dX4_badgeNumbered_24 : decode cX4_badgeNumbered 24 = .ok (.athrow, 1) := by decide +kernel
theorem dX4_badgeNumbered_25 : decode cX4_badgeNumbered 25 = .ok (.aload_n 0, 1) := by decide +kernel
theorem dX4_badgeNumbered_26 : decode cX4_badgeNumbered 26 = .ok (.getfield 22, 3) := by decide +kernel
theorem dX4_badgeNumbered_29 : decode cX4_badgeNumbered 29 = .ok (.iload_n 1, 1) := by decide +kernel
theorem dX4_badgeNumbered_30 : decode cX4_badgeNumbered 30 = .ok (.invokevirtual 214, 3) := by decide +kernel
theorem dX4_badgeNumbered_33 : decode cX4_badgeNumbered 33 = .ok (.checkcast 90, 3) := by decide +kernel
theorem dX4_badgeNumbered_36 : decode cX4_badgeNumbered 36 = .ok (.areturn, 1) := by decide +kernel
theorem dX4_riderNumbered_0 : decode cX4_riderNumbered 0 = .ok (.iload_n 1, 1) := by decide +kernel
theorem dX4_riderNumbered_1 : decode cX4_riderNumbered 1 = .ok (.ifCond .lt 14, 3) := by decide +kernel
theorem dX4_riderNumbered_4 : decode cX4_riderNumbered 4 = .ok (.iload_n 1, 1) := by decide +kernel
theorem dX4_riderNumbered_5 : decode cX4_riderNumbered 5 = .ok (.aload_n 0, 1) := by decide +kernel
theorem dX4_riderNumbered_6 : decode cX4_riderNumbered 6 = .ok (.getfield 29, 3) := by decide +kernel
theorem dX4_riderNumbered_9 : decode cX4_riderNumbered 9 = .ok (.invokevirtual 58, 3) := by decide +kernel
theorem dX4_riderNumbered_12 : decode cX4_riderNumbered 12 = .ok (.if_icmp .lt 13, 3) := by decide +kernel
theorem dX4_riderNumbered_15 : decode cX4_riderNumbered 15 = .ok (.new 79, 3) := by decide +kernel
theorem dX4_riderNumbered_18 : decode cX4_riderNumbered 18 = .ok (.dup, 1) := by decide +kernel
theorem dX4_riderNumbered_19 : decode cX4_riderNumbered 19 = .ok (.ldc 220, 2) := by decide +kernel
theorem dX4_riderNumbered_21 : decode cX4_riderNumbered 21 = .ok (.invokespecial 83, 3) := by decide +kernel
theorem dX4_riderNumbered_24 : decode cX4_riderNumbered 24 = .ok (.athrow, 1) := by decide +kernel
theorem dX4_riderNumbered_25 : decode cX4_riderNumbered 25 = .ok (.aload_n 0, 1) := by decide +kernel
theorem dX4_riderNumbered_26 : decode cX4_riderNumbered 26 = .ok (.getfield 29, 3) := by decide +kernel
theorem dX4_riderNumbered_29 : decode cX4_riderNumbered 29 = .ok (.iload_n 1, 1) := by decide +kernel
theorem dX4_riderNumbered_30 : decode cX4_riderNumbered 30 = .ok (.invokevirtual 214, 3) := by decide +kernel
theorem dX4_riderNumbered_33 : decode cX4_riderNumbered 33 = .ok (.checkcast 123, 3) := by decide +kernel
theorem dX4_riderNumbered_36 : decode cX4_riderNumbered 36 = .ok (.areturn, 1) := by decide +kernel
theorem dX4_liftNumbered_0 : decode cX4_liftNumbered 0 = .ok (.iload_n 1, 1) := by decide +kernel
theorem dX4_liftNumbered_1 : decode cX4_liftNumbered 1 = .ok (.ifCond .lt 14, 3) := by decide +kernel
theorem dX4_liftNumbered_4 : decode cX4_liftNumbered 4 = .ok (.iload_n 1, 1) := by decide +kernel
theorem dX4_liftNumbered_5 : decode cX4_liftNumbered 5 = .ok (.aload_n 0, 1) := by decide +kernel
theorem dX4_liftNumbered_6 : decode cX4_liftNumbered 6 = .ok (.getfield 26, 3) := by decide +kernel
theorem dX4_liftNumbered_9 : decode cX4_liftNumbered 9 = .ok (.invokevirtual 58, 3) := by decide +kernel
theorem dX4_liftNumbered_12 : decode cX4_liftNumbered 12 = .ok (.if_icmp .lt 13, 3) := by decide +kernel
theorem dX4_liftNumbered_15 : decode cX4_liftNumbered 15 = .ok (.new 79, 3) := by decide +kernel
theorem dX4_liftNumbered_18 : decode cX4_liftNumbered 18 = .ok (.dup, 1) := by decide +kernel
theorem dX4_liftNumbered_19 : decode cX4_liftNumbered 19 = .ok (.ldc 222, 2) := by decide +kernel
theorem dX4_liftNumbered_21 : decode cX4_liftNumbered 21 = .ok (.invokespecial 83, 3) := by decide +kernel
theorem dX4_liftNumbered_24 : decode cX4_liftNumbered 24 = .ok (.athrow, 1) := by decide +kernel
theorem dX4_liftNumbered_25 : decode cX4_liftNumbered 25 = .ok (.aload_n 0, 1) := by decide +kernel
theorem dX4_liftNumbered_26 : decode cX4_liftNumbered 26 = .ok (.getfield 26, 3) := by decide +kernel
theorem dX4_liftNumbered_29 : decode cX4_liftNumbered 29 = .ok (.iload_n 1, 1) := by decide +kernel
theorem dX4_liftNumbered_30 : decode cX4_liftNumbered 30 = .ok (.invokevirtual 214, 3) := by decide +kernel
theorem dX4_liftNumbered_33 : decode cX4_liftNumbered 33 = .ok (.checkcast 67, 3) := by decide +kernel
theorem dX4_liftNumbered_36 : decode cX4_liftNumbered 36 = .ok (.areturn, 1) := by decide +kernel
theorem dX4_checkFloor_0 : decode cX4_checkFloor 0 = .ok (.iload_n 0, 1) := by decide +kernel
theorem dX4_checkFloor_1 : decode cX4_checkFloor 1 = .ok (.ifCond .lt 9, 3) := by decide +kernel
theorem dX4_checkFloor_4 : decode cX4_checkFloor 4 = .ok (.iload_n 0, 1) := by decide +kernel
theorem dX4_checkFloor_5 : decode cX4_checkFloor 5 = .ok (.bipush 10, 2) := by decide +kernel
theorem dX4_checkFloor_7 : decode cX4_checkFloor 7 = .ok (.if_icmp .lt 13, 3) := by decide +kernel
theorem dX4_checkFloor_10 : decode cX4_checkFloor 10 = .ok (.new 79, 3) := by decide +kernel
theorem dX4_checkFloor_13 : decode cX4_checkFloor 13 = .ok (.dup, 1) := by decide +kernel
theorem dX4_checkFloor_14 : decode cX4_checkFloor 14 = .ok (.ldc 81, 2) := by decide +kernel
theorem dX4_checkFloor_16 : decode cX4_checkFloor 16 = .ok (.invokespecial 83, 3) := by decide +kernel
theorem dX4_checkFloor_19 : decode cX4_checkFloor 19 = .ok (.athrow, 1) := by decide +kernel
theorem dX4_checkFloor_20 : decode cX4_checkFloor 20 = .ok (.return_, 1) := by decide +kernel
theorem dX4_whyNot_0 : decode cX4_whyNot 0 = .ok (.iload_n 2, 1) := by decide +kernel
theorem dX4_whyNot_1 : decode cX4_whyNot 1 = .ok (.ifCond .le 9, 3) := by decide +kernel
theorem dX4_whyNot_4 : decode cX4_whyNot 4 = .ok (.iload_n 2, 1) := by decide +kernel
theorem dX4_whyNot_5 : decode cX4_whyNot 5 = .ok (.bipush 10, 2) := by decide +kernel
theorem dX4_whyNot_7 : decode cX4_whyNot 7 = .ok (.if_icmp .lt 6, 3) := by decide +kernel
theorem dX4_whyNot_10 : decode cX4_whyNot 10 = .ok (.bipush 110, 2) := by decide +kernel
theorem dX4_whyNot_12 : decode cX4_whyNot 12 = .ok (.ireturn, 1) := by decide +kernel
theorem dX4_whyNot_13 : decode cX4_whyNot 13 = .ok (.aload_n 1, 1) := by decide +kernel
theorem dX4_whyNot_14 : decode cX4_whyNot 14 = .ok (.getfield 99, 3) := by decide +kernel
theorem dX4_whyNot_17 : decode cX4_whyNot 17 = .ok (.ifCond .eq 6, 3) := by decide +kernel
theorem dX4_whyNot_20 : decode cX4_whyNot 20 = .ok (.bipush 114, 2) := by decide +kernel
theorem dX4_whyNot_22 : decode cX4_whyNot 22 = .ok (.ireturn, 1) := by decide +kernel
theorem dX4_whyNot_23 : decode cX4_whyNot 23 = .ok (.aload_n 0, 1) := by decide +kernel
theorem dX4_whyNot_24 : decode cX4_whyNot 24 = .ok (.getfield 9, 3) := by decide +kernel
theorem dX4_whyNot_27 : decode cX4_whyNot 27 = .ok (.iload_n 2, 1) := by decide +kernel
theorem dX4_whyNot_28 : decode cX4_whyNot 28 = .ok (.iaload, 1) := by decide +kernel
theorem dX4_whyNot_29 : decode cX4_whyNot 29 = .ok (.iconst (-1), 1) := by decide +kernel
theorem dX4_whyNot_30 : decode cX4_whyNot 30 = .ok (.if_icmp .eq 24, 3) := by decide +kernel
theorem dX4_whyNot_33 : decode cX4_whyNot 33 = .ok (.aload_n 0, 1) := by decide +kernel
theorem dX4_whyNot_34 : decode cX4_whyNot 34 = .ok (.getfield 9, 3) := by decide +kernel
theorem dX4_whyNot_37 : decode cX4_whyNot 37 = .ok (.iload_n 2, 1) := by decide +kernel
theorem dX4_whyNot_38 : decode cX4_whyNot 38 = .ok (.iaload, 1) := by decide +kernel
theorem dX4_whyNot_39 : decode cX4_whyNot 39 = .ok (.aload_n 1, 1) := by decide +kernel
theorem dX4_whyNot_40 : decode cX4_whyNot 40 = .ok (.getfield 224, 3) := by decide +kernel
theorem dX4_whyNot_43 : decode cX4_whyNot 43 = .ok (.if_icmp .ne 8, 3) := by decide +kernel
theorem dX4_whyNot_46 : decode cX4_whyNot 46 = .ok (.bipush 110, 2) := by decide +kernel
theorem dX4_whyNot_48 : decode cX4_whyNot 48 = .ok (.goto 5, 3) := by decide +kernel
theorem dX4_whyNot_51 : decode cX4_whyNot 51 = .ok (.bipush 116, 2) := by decide +kernel
theorem dX4_whyNot_53 : decode cX4_whyNot 53 = .ok (.ireturn, 1) := by decide +kernel
theorem dX4_whyNot_54 : decode cX4_whyNot 54 = .ok (.aload_n 0, 1) := by decide +kernel
theorem dX4_whyNot_55 : decode cX4_whyNot 55 = .ok (.getfield 38, 3) := by decide +kernel
theorem dX4_whyNot_58 : decode cX4_whyNot 58 = .ok (.bipush 100, 2) := by decide +kernel
theorem dX4_whyNot_60 : decode cX4_whyNot 60 = .ok (.irem, 1) := by decide +kernel
theorem dX4_whyNot_61 : decode cX4_whyNot 61 = .ok (.istore_n 3, 1) := by decide +kernel
theorem dX4_whyNot_62 : decode cX4_whyNot 62 = .ok (.aload_n 0, 1) := by decide +kernel
theorem dX4_whyNot_63 : decode cX4_whyNot 63 = .ok (.getfield 13, 3) := by decide +kernel
theorem dX4_whyNot_66 : decode cX4_whyNot 66 = .ok (.iload_n 2, 1) := by decide +kernel
theorem dX4_whyNot_67 : decode cX4_whyNot 67 = .ok (.iaload, 1) := by decide +kernel
theorem dX4_whyNot_68 : decode cX4_whyNot 68 = .ok (.iload_n 3, 1) := by decide +kernel
theorem dX4_whyNot_69 : decode cX4_whyNot 69 = .ok (.if_icmp .gt 18, 3) := by decide +kernel
theorem dX4_whyNot_72 : decode cX4_whyNot 72 = .ok (.iload_n 3, 1) := by decide +kernel
theorem dX4_whyNot_73 : decode cX4_whyNot 73 = .ok (.aload_n 0, 1) := by decide +kernel
theorem dX4_whyNot_74 : decode cX4_whyNot 74 = .ok (.getfield 16, 3) := by decide +kernel
theorem dX4_whyNot_77 : decode cX4_whyNot 77 = .ok (.iload_n 2, 1) := by decide +kernel
theorem dX4_whyNot_78 : decode cX4_whyNot 78 = .ok (.iaload, 1) := by decide +kernel
theorem dX4_whyNot_79 : decode cX4_whyNot 79 = .ok (.if_icmp .ge 8, 3) := by decide +kernel
theorem dX4_whyNot_82 : decode cX4_whyNot 82 = .ok (.bipush 110, 2) := by decide +kernel
theorem dX4_whyNot_84 : decode cX4_whyNot 84 = .ok (.goto 5, 3) := by decide +kernel
theorem dX4_whyNot_87 : decode cX4_whyNot 87 = .ok (.bipush 104, 2) := by decide +kernel
theorem dX4_whyNot_89 : decode cX4_whyNot 89 = .ok (.ireturn, 1) := by decide +kernel
theorem dX4_hasRider_0 : decode cX4_hasRider 0 = .ok (.iconst 0, 1) := by decide +kernel
theorem dX4_hasRider_1 : decode cX4_hasRider 1 = .ok (.istore_n 2, 1) := by decide +kernel
theorem dX4_hasRider_2 : decode cX4_hasRider 2 = .ok (.iload_n 2, 1) := by decide +kernel
theorem dX4_hasRider_3 : decode cX4_hasRider 3 = .ok (.aload_n 0, 1) := by decide +kernel
theorem dX4_hasRider_4 : decode cX4_hasRider 4 = .ok (.getfield 32, 3) := by decide +kernel
theorem dX4_hasRider_7 : decode cX4_hasRider 7 = .ok (.invokevirtual 58, 3) := by decide +kernel
theorem dX4_hasRider_10 : decode cX4_hasRider 10 = .ok (.if_icmp .ge 29, 3) := by decide +kernel
theorem dX4_hasRider_13 : decode cX4_hasRider 13 = .ok (.aload_n 0, 1) := by decide +kernel
theorem dX4_hasRider_14 : decode cX4_hasRider 14 = .ok (.getfield 32, 3) := by decide +kernel
theorem dX4_hasRider_17 : decode cX4_hasRider 17 = .ok (.iload_n 2, 1) := by decide +kernel
theorem dX4_hasRider_18 : decode cX4_hasRider 18 = .ok (.invokevirtual 214, 3) := by decide +kernel
theorem dX4_hasRider_21 : decode cX4_hasRider 21 = .ok (.checkcast 123, 3) := by decide +kernel
theorem dX4_hasRider_24 : decode cX4_hasRider 24 = .ok (.getfield 227, 3) := by decide +kernel
theorem dX4_hasRider_27 : decode cX4_hasRider 27 = .ok (.aload_n 1, 1) := by decide +kernel
theorem dX4_hasRider_28 : decode cX4_hasRider 28 = .ok (.if_acmp .ne 5, 3) := by decide +kernel
theorem dX4_hasRider_31 : decode cX4_hasRider 31 = .ok (.iconst 1, 1) := by decide +kernel
theorem dX4_hasRider_32 : decode cX4_hasRider 32 = .ok (.ireturn, 1) := by decide +kernel
theorem dX4_hasRider_33 : decode cX4_hasRider 33 = .ok (.iinc 2 1, 3) := by decide +kernel
theorem dX4_hasRider_36 : decode cX4_hasRider 36 = .ok (.goto (-34), 3) := by decide +kernel
theorem dX4_hasRider_39 : decode cX4_hasRider 39 = .ok (.iconst 0, 1) := by decide +kernel
theorem dX4_hasRider_40 : decode cX4_hasRider 40 = .ok (.ireturn, 1) := by decide +kernel
theorem dX4_countAboard_0 : decode cX4_countAboard 0 = .ok (.iconst 0, 1) := by decide +kernel
theorem dX4_countAboard_1 : decode cX4_countAboard 1 = .ok (.istore_n 2, 1) := by decide +kernel
theorem dX4_countAboard_2 : decode cX4_countAboard 2 = .ok (.iconst 0, 1) := by decide +kernel
theorem dX4_countAboard_3 : decode cX4_countAboard 3 = .ok (.istore_n 3, 1) := by decide +kernel
theorem dX4_countAboard_4 : decode cX4_countAboard 4 = .ok (.iload_n 3, 1) := by decide +kernel
theorem dX4_countAboard_5 : decode cX4_countAboard 5 = .ok (.aload_n 0, 1) := by decide +kernel
theorem dX4_countAboard_6 : decode cX4_countAboard 6 = .ok (.getfield 32, 3) := by decide +kernel
theorem dX4_countAboard_9 : decode cX4_countAboard 9 = .ok (.invokevirtual 58, 3) := by decide +kernel
theorem dX4_countAboard_12 : decode cX4_countAboard 12 = .ok (.if_icmp .ge 30, 3) := by decide +kernel
theorem dX4_countAboard_15 : decode cX4_countAboard 15 = .ok (.aload_n 0, 1) := by decide +kernel
theorem dX4_countAboard_16 : decode cX4_countAboard 16 = .ok (.getfield 32, 3) := by decide +kernel
theorem dX4_countAboard_19 : decode cX4_countAboard 19 = .ok (.iload_n 3, 1) := by decide +kernel
theorem dX4_countAboard_20 : decode cX4_countAboard 20 = .ok (.invokevirtual 214, 3) := by decide +kernel
theorem dX4_countAboard_23 : decode cX4_countAboard 23 = .ok (.checkcast 123, 3) := by decide +kernel
theorem dX4_countAboard_26 : decode cX4_countAboard 26 = .ok (.aload_n 1, 1) := by decide +kernel
theorem dX4_countAboard_27 : decode cX4_countAboard 27 = .ok (.invokevirtual 231, 3) := by decide +kernel
theorem dX4_countAboard_30 : decode cX4_countAboard 30 = .ok (.ifCond .eq 6, 3) := by decide +kernel
theorem dX4_countAboard_33 : decode cX4_countAboard 33 = .ok (.iinc 2 1, 3) := by decide +kernel
theorem dX4_countAboard_36 : decode cX4_countAboard 36 = .ok (.iinc 3 1, 3) := by decide +kernel
theorem dX4_countAboard_39 : decode cX4_countAboard 39 = .ok (.goto (-35), 3) := by decide +kernel
theorem dX4_countAboard_42 : decode cX4_countAboard 42 = .ok (.iload_n 2, 1) := by decide +kernel
theorem dX4_countAboard_43 : decode cX4_countAboard 43 = .ok (.ireturn, 1) := by decide +kernel
theorem dX4_hasRoom_0 : decode cX4_hasRoom 0 = .ok (.aload_n 1, 1) := by decide +kernel
theorem dX4_hasRoom_1 : decode cX4_hasRoom 1 = .ok (.getfield 171, 3) := by decide +kernel
theorem dX4_hasRoom_4 : decode cX4_hasRoom 4 = .ok (.bipush 115, 2) := by decide +kernel
theorem dX4_hasRoom_6 : decode cX4_hasRoom 6 = .ok (.if_icmp .ne 19, 3) := by decide +kernel
theorem dX4_hasRoom_9 : decode cX4_hasRoom 9 = .ok (.aload_n 0, 1) := by decide +kernel
theorem dX4_hasRoom_10 : decode cX4_hasRoom 10 = .ok (.aload_n 1, 1) := by decide +kernel
theorem dX4_hasRoom_11 : decode cX4_hasRoom 11 = .ok (.invokevirtual 183, 3) := by decide +kernel
theorem dX4_hasRoom_14 : decode cX4_hasRoom 14 = .ok (.aload_n 1, 1) := by decide +kernel
theorem dX4_hasRoom_15 : decode cX4_hasRoom 15 = .ok (.getfield 235, 3) := by decide +kernel
theorem dX4_hasRoom_18 : decode cX4_hasRoom 18 = .ok (.if_icmp .ge 7, 3) := by decide +kernel
theorem dX4_hasRoom_21 : decode cX4_hasRoom 21 = .ok (.iconst 1, 1) := by decide +kernel
theorem dX4_hasRoom_22 : decode cX4_hasRoom 22 = .ok (.goto 4, 3) := by decide +kernel
theorem dX4_hasRoom_25 : decode cX4_hasRoom 25 = .ok (.iconst 0, 1) := by decide +kernel
theorem dX4_hasRoom_26 : decode cX4_hasRoom 26 = .ok (.ireturn, 1) := by decide +kernel
theorem dX4_note_0 : decode cX4_note 0 = .ok (.aload_n 0, 1) := by decide +kernel
theorem dX4_note_1 : decode cX4_note 1 = .ok (.getfield 35, 3) := by decide +kernel
theorem dX4_note_4 : decode cX4_note 4 = .ok (.new 238, 3) := by decide +kernel
theorem dX4_note_7 : decode cX4_note 7 = .ok (.dup, 1) := by decide +kernel
theorem dX4_note_8 : decode cX4_note 8 = .ok (.aload_n 1, 1) := by decide +kernel
theorem dX4_note_9 : decode cX4_note 9 = .ok (.getfield 135, 3) := by decide +kernel
theorem dX4_note_12 : decode cX4_note 12 = .ok (.aload_n 1, 1) := by decide +kernel
theorem dX4_note_13 : decode cX4_note 13 = .ok (.getfield 140, 3) := by decide +kernel
theorem dX4_note_16 : decode cX4_note 16 = .ok (.aload_n 0, 1) := by decide +kernel
theorem dX4_note_17 : decode cX4_note 17 = .ok (.getfield 38, 3) := by decide +kernel
theorem dX4_note_20 : decode cX4_note 20 = .ok (.invokespecial 240, 3) := by decide +kernel
theorem dX4_note_23 : decode cX4_note 23 = .ok (.invokevirtual 72, 3) := by decide +kernel
theorem dX4_note_26 : decode cX4_note 26 = .ok (.pop, 1) := by decide +kernel
theorem dX4_note_27 : decode cX4_note 27 = .ok (.return_, 1) := by decide +kernel
theorem dX4_ticksByLog_0 : decode cX4_ticksByLog 0 = .ok (.aload_n 0, 1) := by decide +kernel
theorem dX4_ticksByLog_1 : decode cX4_ticksByLog 1 = .ok (.getfield 38, 3) := by decide +kernel
theorem dX4_ticksByLog_4 : decode cX4_ticksByLog 4 = .ok (.istore_n 2, 1) := by decide +kernel
theorem dX4_ticksByLog_5 : decode cX4_ticksByLog 5 = .ok (.iconst 0, 1) := by decide +kernel
theorem dX4_ticksByLog_6 : decode cX4_ticksByLog 6 = .ok (.istore_n 3, 1) := by decide +kernel
theorem dX4_ticksByLog_7 : decode cX4_ticksByLog 7 = .ok (.iload_n 3, 1) := by decide +kernel
theorem dX4_ticksByLog_8 : decode cX4_ticksByLog 8 = .ok (.aload_n 0, 1) := by decide +kernel
theorem dX4_ticksByLog_9 : decode cX4_ticksByLog 9 = .ok (.getfield 35, 3) := by decide +kernel
theorem dX4_ticksByLog_12 : decode cX4_ticksByLog 12 = .ok (.invokevirtual 58, 3) := by decide +kernel
theorem dX4_ticksByLog_15 : decode cX4_ticksByLog 15 = .ok (.if_icmp .ge 58, 3) := by decide +kernel
theorem dX4_ticksByLog_18 : decode cX4_ticksByLog 18 = .ok (.aload_n 0, 1) := by decide +kernel
theorem dX4_ticksByLog_19 : decode cX4_ticksByLog 19 = .ok (.getfield 35, 3) := by decide +kernel
theorem dX4_ticksByLog_22 : decode cX4_ticksByLog 22 = .ok (.iload_n 3, 1) := by decide +kernel
theorem dX4_ticksByLog_23 : decode cX4_ticksByLog 23 = .ok (.invokevirtual 214, 3) := by decide +kernel
theorem dX4_ticksByLog_26 : decode cX4_ticksByLog 26 = .ok (.checkcast 238, 3) := by decide +kernel
theorem dX4_ticksByLog_29 : decode cX4_ticksByLog 29 = .ok (.astore 4, 2) := by decide +kernel
theorem dX4_ticksByLog_31 : decode cX4_ticksByLog 31 = .ok (.aload 4, 2) := by decide +kernel
theorem dX4_ticksByLog_33 : decode cX4_ticksByLog 33 = .ok (.getfield 243, 3) := by decide +kernel
theorem dX4_ticksByLog_36 : decode cX4_ticksByLog 36 = .ok (.aload_n 1, 1) := by decide +kernel
theorem dX4_ticksByLog_37 : decode cX4_ticksByLog 37 = .ok (.getfield 135, 3) := by decide +kernel
theorem dX4_ticksByLog_40 : decode cX4_ticksByLog 40 = .ok (.if_icmp .ne 27, 3) := by decide +kernel
theorem dX4_ticksByLog_43 : decode cX4_ticksByLog 43 = .ok (.aload 4, 2) := by decide +kernel
theorem dX4_ticksByLog_45 : decode cX4_ticksByLog 45 = .ok (.getfield 246, 3) := by decide +kernel
theorem dX4_ticksByLog_48 : decode cX4_ticksByLog 48 = .ok (.bipush 119, 2) := by decide +kernel
theorem dX4_ticksByLog_50 : decode cX4_ticksByLog 50 = .ok (.if_icmp .eq 11, 3) := by decide +kernel
theorem dX4_ticksByLog_53 : decode cX4_ticksByLog 53 = .ok (.aload 4, 2) := by decide +kernel
theorem dX4_ticksByLog_55 : decode cX4_ticksByLog 55 = .ok (.getfield 247, 3) := by decide +kernel
theorem dX4_ticksByLog_58 : decode cX4_ticksByLog 58 = .ok (.iload_n 2, 1) := by decide +kernel
theorem dX4_ticksByLog_59 : decode cX4_ticksByLog 59 = .ok (.isub, 1) := by decide +kernel
theorem dX4_ticksByLog_60 : decode cX4_ticksByLog 60 = .ok (.ireturn, 1) := by decide +kernel
theorem dX4_ticksByLog_61 : decode cX4_ticksByLog 61 = .ok (.aload 4, 2) := by decide +kernel
theorem dX4_ticksByLog_63 : decode cX4_ticksByLog 63 = .ok (.getfield 247, 3) := by decide +kernel
theorem dX4_ticksByLog_66 : decode cX4_ticksByLog 66 = .ok (.istore_n 2, 1) := by decide +kernel
theorem dX4_ticksByLog_67 : decode cX4_ticksByLog 67 = .ok (.iinc 3 1, 3) := by decide +kernel
theorem dX4_ticksByLog_70 : decode cX4_ticksByLog 70 = .ok (.goto (-63), 3) := by decide +kernel
theorem dX4_ticksByLog_73 : decode cX4_ticksByLog 73 = .ok (.aload_n 0, 1) := by decide +kernel
theorem dX4_ticksByLog_74 : decode cX4_ticksByLog 74 = .ok (.getfield 38, 3) := by decide +kernel
theorem dX4_ticksByLog_77 : decode cX4_ticksByLog 77 = .ok (.iload_n 2, 1) := by decide +kernel
theorem dX4_ticksByLog_78 : decode cX4_ticksByLog 78 = .ok (.isub, 1) := by decide +kernel
theorem dX4_ticksByLog_79 : decode cX4_ticksByLog 79 = .ok (.ireturn, 1) := by decide +kernel
theorem dX4_goAboard_0 : decode cX4_goAboard 0 = .ok (.aload_n 1, 1) := by decide +kernel
theorem dX4_goAboard_1 : decode cX4_goAboard 1 = .ok (.bipush 97, 2) := by decide +kernel
theorem dX4_goAboard_3 : decode cX4_goAboard 3 = .ok (.putfield 140, 3) := by decide +kernel
theorem dX4_goAboard_6 : decode cX4_goAboard 6 = .ok (.aload_n 0, 1) := by decide +kernel
theorem dX4_goAboard_7 : decode cX4_goAboard 7 = .ok (.aload_n 1, 1) := by decide +kernel
theorem dX4_goAboard_8 : decode cX4_goAboard 8 = .ok (.invokevirtual 128, 3) := by decide +kernel
theorem dX4_goAboard_11 : decode cX4_goAboard 11 = .ok (.return_, 1) := by decide +kernel
theorem dX4_finish_0 : decode cX4_finish 0 = .ok (.aload_n 1, 1) := by decide +kernel
theorem dX4_finish_1 : decode cX4_finish 1 = .ok (.bipush 100, 2) := by decide +kernel
theorem dX4_finish_3 : decode cX4_finish 3 = .ok (.putfield 140, 3) := by decide +kernel
theorem dX4_finish_6 : decode cX4_finish 6 = .ok (.aload_n 1, 1) := by decide +kernel
theorem dX4_finish_7 : decode cX4_finish 7 = .ok (.iload_n 2, 1) := by decide +kernel
theorem dX4_finish_8 : decode cX4_finish 8 = .ok (.putfield 151, 3) := by decide +kernel
theorem dX4_finish_11 : decode cX4_finish 11 = .ok (.aload_n 1, 1) := by decide +kernel
theorem dX4_finish_12 : decode cX4_finish 12 = .ok (.aconst_null, 1) := by decide +kernel
theorem dX4_finish_13 : decode cX4_finish 13 = .ok (.putfield 144, 3) := by decide +kernel
theorem dX4_finish_16 : decode cX4_finish 16 = .ok (.aload_n 0, 1) := by decide +kernel
theorem dX4_finish_17 : decode cX4_finish 17 = .ok (.aload_n 1, 1) := by decide +kernel
theorem dX4_finish_18 : decode cX4_finish 18 = .ok (.invokevirtual 128, 3) := by decide +kernel
theorem dX4_finish_21 : decode cX4_finish 21 = .ok (.return_, 1) := by decide +kernel
theorem dX4_scoreOf_0 : decode cX4_scoreOf 0 = .ok (.aload_n 1, 1) := by decide +kernel
theorem dX4_scoreOf_1 : decode cX4_scoreOf 1 = .ok (.getfield 148, 3) := by decide +kernel
theorem dX4_scoreOf_4 : decode cX4_scoreOf 4 = .ok (.iload_n 2, 1) := by decide +kernel
theorem dX4_scoreOf_5 : decode cX4_scoreOf 5 = .ok (.isub, 1) := by decide +kernel
theorem dX4_scoreOf_6 : decode cX4_scoreOf 6 = .ok (.invokestatic 250, 3) := by decide +kernel
theorem dX4_scoreOf_9 : decode cX4_scoreOf 9 = .ok (.istore_n 3, 1) := by decide +kernel
theorem dX4_scoreOf_10 : decode cX4_scoreOf 10 = .ok (.iconst 0, 1) := by decide +kernel
theorem dX4_scoreOf_11 : decode cX4_scoreOf 11 = .ok (.istore 4, 2) := by decide +kernel
theorem dX4_scoreOf_13 : decode cX4_scoreOf 13 = .ok (.iload 4, 2) := by decide +kernel
theorem dX4_scoreOf_15 : decode cX4_scoreOf 15 = .ok (.aload_n 0, 1) := by decide +kernel
theorem dX4_scoreOf_16 : decode cX4_scoreOf 16 = .ok (.getfield 32, 3) := by decide +kernel
theorem dX4_scoreOf_19 : decode cX4_scoreOf 19 = .ok (.invokevirtual 58, 3) := by decide +kernel
theorem dX4_scoreOf_22 : decode cX4_scoreOf 22 = .ok (.if_icmp .ge 31, 3) := by decide +kernel
theorem dX4_scoreOf_25 : decode cX4_scoreOf 25 = .ok (.aload_n 0, 1) := by decide +kernel
theorem dX4_scoreOf_26 : decode cX4_scoreOf 26 = .ok (.getfield 32, 3) := by decide +kernel
theorem dX4_scoreOf_29 : decode cX4_scoreOf 29 = .ok (.iload 4, 2) := by decide +kernel
theorem dX4_scoreOf_31 : decode cX4_scoreOf 31 = .ok (.invokevirtual 214, 3) := by decide +kernel
theorem dX4_scoreOf_34 : decode cX4_scoreOf 34 = .ok (.checkcast 123, 3) := by decide +kernel
theorem dX4_scoreOf_37 : decode cX4_scoreOf 37 = .ok (.getfield 144, 3) := by decide +kernel
theorem dX4_scoreOf_40 : decode cX4_scoreOf 40 = .ok (.aload_n 1, 1) := by decide +kernel
theorem dX4_scoreOf_41 : decode cX4_scoreOf 41 = .ok (.if_acmp .ne 6, 3) := by decide +kernel
theorem dX4_scoreOf_44 : decode cX4_scoreOf 44 = .ok (.iinc 3 2, 3) := by decide +kernel
theorem dX4_scoreOf_47 : decode cX4_scoreOf 47 = .ok (.iinc 4 1, 3) := by decide +kernel
theorem dX4_scoreOf_50 : decode cX4_scoreOf 50 = .ok (.goto (-37), 3) := by decide +kernel
theorem dX4_scoreOf_53 : decode cX4_scoreOf 53 = .ok (.iload_n 3, 1) := by decide +kernel
theorem dX4_scoreOf_54 : decode cX4_scoreOf 54 = .ok (.ireturn, 1) := by decide +kernel
theorem dX4_giveLift_0 : decode cX4_giveLift 0 = .ok (.aconst_null, 1) := by decide +kernel
theorem dX4_giveLift_1 : decode cX4_giveLift 1 = .ok (.astore_n 2, 1) := by decide +kernel
theorem dX4_giveLift_2 : decode cX4_giveLift 2 = .ok (.iconst 0, 1) := by decide +kernel
theorem dX4_giveLift_3 : decode cX4_giveLift 3 = .ok (.istore_n 3, 1) := by decide +kernel
theorem dX4_giveLift_4 : decode cX4_giveLift 4 = .ok (.iconst 0, 1) := by decide +kernel
theorem dX4_giveLift_5 : decode cX4_giveLift 5 = .ok (.istore 4, 2) := by decide +kernel
theorem dX4_giveLift_7 : decode cX4_giveLift 7 = .ok (.iload 4, 2) := by decide +kernel
theorem dX4_giveLift_9 : decode cX4_giveLift 9 = .ok (.aload_n 0, 1) := by decide +kernel
theorem dX4_giveLift_10 : decode cX4_giveLift 10 = .ok (.getfield 26, 3) := by decide +kernel
theorem dX4_giveLift_13 : decode cX4_giveLift 13 = .ok (.invokevirtual 58, 3) := by decide +kernel
theorem dX4_giveLift_16 : decode cX4_giveLift 16 = .ok (.if_icmp .ge 61, 3) := by decide +kernel
theorem dX4_giveLift_19 : decode cX4_giveLift 19 = .ok (.aload_n 0, 1) := by decide +kernel
theorem dX4_giveLift_20 : decode cX4_giveLift 20 = .ok (.getfield 26, 3) := by decide +kernel
theorem dX4_giveLift_23 : decode cX4_giveLift 23 = .ok (.iload 4, 2) := by decide +kernel
theorem dX4_giveLift_25 : decode cX4_giveLift 25 = .ok (.invokevirtual 214, 3) := by decide +kernel
theorem dX4_giveLift_28 : decode cX4_giveLift 28 = .ok (.checkcast 67, 3) := by decide +kernel
theorem dX4_giveLift_31 : decode cX4_giveLift 31 = .ok (.astore 5, 2) := by decide +kernel
theorem dX4_giveLift_33 : decode cX4_giveLift 33 = .ok (.aload 5, 2) := by decide +kernel
theorem dX4_giveLift_35 : decode cX4_giveLift 35 = .ok (.getfield 171, 3) := by decide +kernel
theorem dX4_giveLift_38 : decode cX4_giveLift 38 = .ok (.bipush 115, 2) := by decide +kernel
theorem dX4_giveLift_40 : decode cX4_giveLift 40 = .ok (.if_icmp .ne 31, 3) := by decide +kernel
theorem dX4_giveLift_43 : decode cX4_giveLift 43 = .ok (.aload_n 0, 1) := by decide +kernel
theorem dX4_giveLift_44 : decode cX4_giveLift 44 = .ok (.aload 5, 2) := by decide +kernel
theorem dX4_giveLift_46 : decode cX4_giveLift 46 = .ok (.aload_n 1, 1) := by decide +kernel
theorem dX4_giveLift_47 : decode cX4_giveLift 47 = .ok (.getfield 151, 3) := by decide +kernel
theorem dX4_giveLift_50 : decode cX4_giveLift 50 = .ok (.invokevirtual 186, 3) := by decide +kernel
theorem dX4_giveLift_53 : decode cX4_giveLift 53 = .ok (.istore 6, 2) := by decide +kernel
theorem dX4_giveLift_55 : decode cX4_giveLift 55 = .ok (.aload_n 2, 1) := by decide +kernel
theorem dX4_giveLift_56 : decode cX4_giveLift 56 = .ok (.ifnull 9, 3) := by decide +kernel
theorem dX4_giveLift_59 : decode cX4_giveLift 59 = .ok (.iload 6, 2) := by decide +kernel
theorem dX4_giveLift_61 : decode cX4_giveLift 61 = .ok (.iload_n 3, 1) := by decide +kernel
theorem dX4_giveLift_62 : decode cX4_giveLift 62 = .ok (.if_icmp .ge 9, 3) := by decide +kernel
theorem dX4_giveLift_65 : decode cX4_giveLift 65 = .ok (.aload 5, 2) := by decide +kernel
theorem dX4_giveLift_67 : decode cX4_giveLift 67 = .ok (.astore_n 2, 1) := by decide +kernel
theorem dX4_giveLift_68 : decode cX4_giveLift 68 = .ok (.iload 6, 2) := by decide +kernel
theorem dX4_giveLift_70 : decode cX4_giveLift 70 = .ok (.istore_n 3, 1) := by decide +kernel
theorem dX4_giveLift_71 : decode cX4_giveLift 71 = .ok (.iinc 4 1, 3) := by decide +kernel
theorem dX4_giveLift_74 : decode cX4_giveLift 74 = .ok (.goto (-67), 3) := by decide +kernel
theorem dX4_giveLift_77 : decode cX4_giveLift 77 = .ok (.aload_n 1, 1) := by decide +kernel
theorem dX4_giveLift_78 : decode cX4_giveLift 78 = .ok (.aload_n 2, 1) := by decide +kernel
theorem dX4_giveLift_79 : decode cX4_giveLift 79 = .ok (.putfield 144, 3) := by decide +kernel
theorem dX4_giveLift_82 : decode cX4_giveLift 82 = .ok (.return_, 1) := by decide +kernel
theorem dX4_giveLiftsToAll_0 : decode cX4_giveLiftsToAll 0 = .ok (.iconst 0, 1) := by decide +kernel
theorem dX4_giveLiftsToAll_1 : decode cX4_giveLiftsToAll 1 = .ok (.istore_n 1, 1) := by decide +kernel
theorem dX4_giveLiftsToAll_2 : decode cX4_giveLiftsToAll 2 = .ok (.iload_n 1, 1) := by decide +kernel
theorem dX4_giveLiftsToAll_3 : decode cX4_giveLiftsToAll 3 = .ok (.aload_n 0, 1) := by decide +kernel
theorem dX4_giveLiftsToAll_4 : decode cX4_giveLiftsToAll 4 = .ok (.getfield 32, 3) := by decide +kernel
theorem dX4_giveLiftsToAll_7 : decode cX4_giveLiftsToAll 7 = .ok (.invokevirtual 58, 3) := by decide +kernel
theorem dX4_giveLiftsToAll_10 : decode cX4_giveLiftsToAll 10 = .ok (.if_icmp .ge 42, 3) := by decide +kernel
theorem dX4_giveLiftsToAll_13 : decode cX4_giveLiftsToAll 13 = .ok (.aload_n 0, 1) := by decide +kernel
theorem dX4_giveLiftsToAll_14 : decode cX4_giveLiftsToAll 14 = .ok (.getfield 32, 3) := by decide +kernel
theorem dX4_giveLiftsToAll_17 : decode cX4_giveLiftsToAll 17 = .ok (.iload_n 1, 1) := by decide +kernel
theorem dX4_giveLiftsToAll_18 : decode cX4_giveLiftsToAll 18 = .ok (.invokevirtual 214, 3) := by decide +kernel
theorem dX4_giveLiftsToAll_21 : decode cX4_giveLiftsToAll 21 = .ok (.checkcast 123, 3) := by decide +kernel
theorem dX4_giveLiftsToAll_24 : decode cX4_giveLiftsToAll 24 = .ok (.astore_n 2, 1) := by decide +kernel
theorem dX4_giveLiftsToAll_25 : decode cX4_giveLiftsToAll 25 = .ok (.aload_n 2, 1) := by decide +kernel
theorem dX4_giveLiftsToAll_26 : decode cX4_giveLiftsToAll 26 = .ok (.getfield 140, 3) := by decide +kernel
theorem dX4_giveLiftsToAll_29 : decode cX4_giveLiftsToAll 29 = .ok (.bipush 119, 2) := by decide +kernel
theorem dX4_giveLiftsToAll_31 : decode cX4_giveLiftsToAll 31 = .ok (.if_icmp .ne 15, 3) := by decide +kernel
theorem dX4_giveLiftsToAll_34 : decode cX4_giveLiftsToAll 34 = .ok (.aload_n 2, 1) := by decide +kernel
theorem dX4_giveLiftsToAll_35 : decode cX4_giveLiftsToAll 35 = .ok (.getfield 144, 3) := by decide +kernel
theorem dX4_giveLiftsToAll_38 : decode cX4_giveLiftsToAll 38 = .ok (.ifnonnull 8, 3) := by decide +kernel
theorem dX4_giveLiftsToAll_41 : decode cX4_giveLiftsToAll 41 = .ok (.aload_n 0, 1) := by decide +kernel
theorem dX4_giveLiftsToAll_42 : decode cX4_giveLiftsToAll 42 = .ok (.aload_n 2, 1) := by decide +kernel
theorem dX4_giveLiftsToAll_43 : decode cX4_giveLiftsToAll 43 = .ok (.invokevirtual 132, 3) := by decide +kernel
theorem dX4_giveLiftsToAll_46 : decode cX4_giveLiftsToAll 46 = .ok (.iinc 1 1, 3) := by decide +kernel
theorem dX4_giveLiftsToAll_49 : decode cX4_giveLiftsToAll 49 = .ok (.goto (-47), 3) := by decide +kernel
theorem dX4_giveLiftsToAll_52 : decode cX4_giveLiftsToAll 52 = .ok (.return_, 1) := by decide +kernel
theorem dX4_giveLiftsInTurn_0 : decode cX4_giveLiftsInTurn 0 = .ok (.aload_n 0, 1) := by decide +kernel
theorem dX4_giveLiftsInTurn_1 : decode cX4_giveLiftsInTurn 1 = .ok (.invokevirtual 204, 3) := by decide +kernel
theorem dX4_giveLiftsInTurn_4 : decode cX4_giveLiftsInTurn 4 = .ok (.istore_n 1, 1) := by decide +kernel
theorem dX4_giveLiftsInTurn_5 : decode cX4_giveLiftsInTurn 5 = .ok (.iconst 0, 1) := by decide +kernel
theorem dX4_giveLiftsInTurn_6 : decode cX4_giveLiftsInTurn 6 = .ok (.istore_n 2, 1) := by decide +kernel
theorem dX4_giveLiftsInTurn_7 : decode cX4_giveLiftsInTurn 7 = .ok (.iload_n 2, 1) := by decide +kernel
theorem dX4_giveLiftsInTurn_8 : decode cX4_giveLiftsInTurn 8 = .ok (.aload_n 0, 1) := by decide +kernel
theorem dX4_giveLiftsInTurn_9 : decode cX4_giveLiftsInTurn 9 = .ok (.getfield 26, 3) := by decide +kernel
theorem dX4_giveLiftsInTurn_12 : decode cX4_giveLiftsInTurn 12 = .ok (.invokevirtual 58, 3) := by decide +kernel
theorem dX4_giveLiftsInTurn_15 : decode cX4_giveLiftsInTurn 15 = .ok (.if_icmp .ge 25, 3) := by decide +kernel
theorem dX4_giveLiftsInTurn_18 : decode cX4_giveLiftsInTurn 18 = .ok (.aload_n 0, 1) := by decide +kernel
theorem dX4_giveLiftsInTurn_19 : decode cX4_giveLiftsInTurn 19 = .ok (.aload_n 0, 1) := by decide +kernel
theorem dX4_giveLiftsInTurn_20 : decode cX4_giveLiftsInTurn 20 = .ok (.getfield 26, 3) := by decide +kernel
theorem dX4_giveLiftsInTurn_23 : decode cX4_giveLiftsInTurn 23 = .ok (.iload_n 2, 1) := by decide +kernel
theorem dX4_giveLiftsInTurn_24 : decode cX4_giveLiftsInTurn 24 = .ok (.invokevirtual 214, 3) := by decide +kernel
theorem dX4_giveLiftsInTurn_27 : decode cX4_giveLiftsInTurn 27 = .ok (.checkcast 67, 3) := by decide +kernel
theorem dX4_giveLiftsInTurn_30 : decode cX4_giveLiftsInTurn 30 = .ok (.invokevirtual 176, 3) := by decide +kernel
theorem dX4_giveLiftsInTurn_33 : decode cX4_giveLiftsInTurn 33 = .ok (.pop, 1) := by decide +kernel
theorem dX4_giveLiftsInTurn_34 : decode cX4_giveLiftsInTurn 34 = .ok (.iinc 2 1, 3) := by decide +kernel
theorem dX4_giveLiftsInTurn_37 : decode cX4_giveLiftsInTurn 37 = .ok (.goto (-30), 3) := by decide +kernel
theorem dX4_giveLiftsInTurn_40 : decode cX4_giveLiftsInTurn 40 = .ok (.iconst 0, 1) := by decide +kernel
theorem dX4_giveLiftsInTurn_41 : decode cX4_giveLiftsInTurn 41 = .ok (.istore_n 2, 1) := by decide +kernel
theorem dX4_giveLiftsInTurn_42 : decode cX4_giveLiftsInTurn 42 = .ok (.iload_n 2, 1) := by decide +kernel
theorem dX4_giveLiftsInTurn_43 : decode cX4_giveLiftsInTurn 43 = .ok (.aload_n 0, 1) := by decide +kernel
theorem dX4_giveLiftsInTurn_44 : decode cX4_giveLiftsInTurn 44 = .ok (.getfield 32, 3) := by decide +kernel
theorem dX4_giveLiftsInTurn_47 : decode cX4_giveLiftsInTurn 47 = .ok (.invokevirtual 58, 3) := by decide +kernel
theorem dX4_giveLiftsInTurn_50 : decode cX4_giveLiftsInTurn 50 = .ok (.if_icmp .ge 43, 3) := by decide +kernel
theorem dX4_giveLiftsInTurn_53 : decode cX4_giveLiftsInTurn 53 = .ok (.aload_n 0, 1) := by decide +kernel
theorem dX4_giveLiftsInTurn_54 : decode cX4_giveLiftsInTurn 54 = .ok (.getfield 32, 3) := by decide +kernel
theorem dX4_giveLiftsInTurn_57 : decode cX4_giveLiftsInTurn 57 = .ok (.iload_n 2, 1) := by decide +kernel
theorem dX4_giveLiftsInTurn_58 : decode cX4_giveLiftsInTurn 58 = .ok (.invokevirtual 214, 3) := by decide +kernel
theorem dX4_giveLiftsInTurn_61 : decode cX4_giveLiftsInTurn 61 = .ok (.checkcast 123, 3) := by decide +kernel
theorem dX4_giveLiftsInTurn_64 : decode cX4_giveLiftsInTurn 64 = .ok (.astore_n 3, 1) := by decide +kernel
theorem dX4_giveLiftsInTurn_65 : decode cX4_giveLiftsInTurn 65 = .ok (.aload_n 3, 1) := by decide +kernel
theorem dX4_giveLiftsInTurn_66 : decode cX4_giveLiftsInTurn 66 = .ok (.getfield 140, 3) := by decide +kernel
theorem dX4_giveLiftsInTurn_69 : decode cX4_giveLiftsInTurn 69 = .ok (.bipush 119, 2) := by decide +kernel
theorem dX4_giveLiftsInTurn_71 : decode cX4_giveLiftsInTurn 71 = .ok (.if_icmp .ne 16, 3) := by decide +kernel
theorem dX4_giveLiftsInTurn_74 : decode cX4_giveLiftsInTurn 74 = .ok (.aload_n 3, 1) := by decide +kernel
theorem dX4_giveLiftsInTurn_75 : decode cX4_giveLiftsInTurn 75 = .ok (.getfield 151, 3) := by decide +kernel
theorem dX4_giveLiftsInTurn_78 : decode cX4_giveLiftsInTurn 78 = .ok (.iload_n 1, 1) := by decide +kernel
theorem dX4_giveLiftsInTurn_79 : decode cX4_giveLiftsInTurn 79 = .ok (.if_icmp .ne 8, 3) := by decide +kernel
theorem dX4_giveLiftsInTurn_82 : decode cX4_giveLiftsInTurn 82 = .ok (.aload_n 0, 1) := by decide +kernel
theorem dX4_giveLiftsInTurn_83 : decode cX4_giveLiftsInTurn 83 = .ok (.aload_n 3, 1) := by decide +kernel
theorem dX4_giveLiftsInTurn_84 : decode cX4_giveLiftsInTurn 84 = .ok (.invokevirtual 132, 3) := by decide +kernel
theorem dX4_giveLiftsInTurn_87 : decode cX4_giveLiftsInTurn 87 = .ok (.iinc 2 1, 3) := by decide +kernel
theorem dX4_giveLiftsInTurn_90 : decode cX4_giveLiftsInTurn 90 = .ok (.goto (-48), 3) := by decide +kernel
theorem dX4_giveLiftsInTurn_93 : decode cX4_giveLiftsInTurn 93 = .ok (.return_, 1) := by decide +kernel
theorem dX4_loseLift_0 : decode cX4_loseLift 0 = .ok (.iconst 0, 1) := by decide +kernel
theorem dX4_loseLift_1 : decode cX4_loseLift 1 = .ok (.istore_n 2, 1) := by decide +kernel
theorem dX4_loseLift_2 : decode cX4_loseLift 2 = .ok (.iconst 0, 1) := by decide +kernel
theorem dX4_loseLift_3 : decode cX4_loseLift 3 = .ok (.istore_n 3, 1) := by decide +kernel
theorem dX4_loseLift_4 : decode cX4_loseLift 4 = .ok (.iload_n 3, 1) := by decide +kernel
theorem dX4_loseLift_5 : decode cX4_loseLift 5 = .ok (.aload_n 0, 1) := by decide +kernel
theorem dX4_loseLift_6 : decode cX4_loseLift 6 = .ok (.getfield 32, 3) := by decide +kernel
theorem dX4_loseLift_9 : decode cX4_loseLift 9 = .ok (.invokevirtual 58, 3) := by decide +kernel
theorem dX4_loseLift_12 : decode cX4_loseLift 12 = .ok (.if_icmp .ge 40, 3) := by decide +kernel
theorem dX4_loseLift_15 : decode cX4_loseLift 15 = .ok (.aload_n 0, 1) := by decide +kernel
theorem dX4_loseLift_16 : decode cX4_loseLift 16 = .ok (.getfield 32, 3) := by decide +kernel
theorem dX4_loseLift_19 : decode cX4_loseLift 19 = .ok (.iload_n 3, 1) := by decide +kernel
theorem dX4_loseLift_20 : decode cX4_loseLift 20 = .ok (.invokevirtual 214, 3) := by decide +kernel
theorem dX4_loseLift_23 : decode cX4_loseLift 23 = .ok (.checkcast 123, 3) := by decide +kernel
theorem dX4_loseLift_26 : decode cX4_loseLift 26 = .ok (.astore 4, 2) := by decide +kernel
theorem dX4_loseLift_28 : decode cX4_loseLift 28 = .ok (.aload 4, 2) := by decide +kernel
theorem dX4_loseLift_30 : decode cX4_loseLift 30 = .ok (.aload_n 1, 1) := by decide +kernel
theorem dX4_loseLift_31 : decode cX4_loseLift 31 = .ok (.invokevirtual 256, 3) := by decide +kernel
theorem dX4_loseLift_34 : decode cX4_loseLift 34 = .ok (.ifCond .eq 12, 3) := by decide +kernel
theorem dX4_loseLift_37 : decode cX4_loseLift 37 = .ok (.aload 4, 2) := by decide +kernel
theorem dX4_loseLift_39 : decode cX4_loseLift 39 = .ok (.aconst_null, 1) := by decide +kernel
theorem dX4_loseLift_40 : decode cX4_loseLift 40 = .ok (.putfield 144, 3) := by decide +kernel
theorem dX4_loseLift_43 : decode cX4_loseLift 43 = .ok (.iinc 2 1, 3) := by decide +kernel
theorem dX4_loseLift_46 : decode cX4_loseLift 46 = .ok (.iinc 3 1, 3) := by decide +kernel
theorem dX4_loseLift_49 : decode cX4_loseLift 49 = .ok (.goto (-45), 3) := by decide +kernel
theorem dX4_loseLift_52 : decode cX4_loseLift 52 = .ok (.iload_n 2, 1) := by decide +kernel
theorem dX4_loseLift_53 : decode cX4_loseLift 53 = .ok (.ireturn, 1) := by decide +kernel
theorem dX4_passOneTick_0 : decode cX4_passOneTick 0 = .ok (.aload_n 0, 1) := by decide +kernel
theorem dX4_passOneTick_1 : decode cX4_passOneTick 1 = .ok (.getfield 42, 3) := by decide +kernel
theorem dX4_passOneTick_4 : decode cX4_passOneTick 4 = .ok (.iconst (-1), 1) := by decide +kernel
theorem dX4_passOneTick_5 : decode cX4_passOneTick 5 = .ok (.if_icmp .eq 10, 3) := by decide +kernel
theorem dX4_passOneTick_8 : decode cX4_passOneTick 8 = .ok (.aload_n 0, 1) := by decide +kernel
theorem dX4_passOneTick_9 : decode cX4_passOneTick 9 = .ok (.invokevirtual 259, 3) := by decide +kernel
theorem dX4_passOneTick_12 : decode cX4_passOneTick 12 = .ok (.goto 7, 3) := by decide +kernel
theorem dX4_passOneTick_15 : decode cX4_passOneTick 15 = .ok (.aload_n 0, 1) := by decide +kernel
theorem dX4_passOneTick_16 : decode cX4_passOneTick 16 = .ok (.invokevirtual 262, 3) := by decide +kernel
theorem dX4_passOneTick_19 : decode cX4_passOneTick 19 = .ok (.iconst 0, 1) := by decide +kernel
theorem dX4_passOneTick_20 : decode cX4_passOneTick 20 = .ok (.istore_n 1, 1) := by decide +kernel
theorem dX4_passOneTick_21 : decode cX4_passOneTick 21 = .ok (.iload_n 1, 1) := by decide +kernel
theorem dX4_passOneTick_22 : decode cX4_passOneTick 22 = .ok (.aload_n 0, 1) := by decide +kernel
theorem dX4_passOneTick_23 : decode cX4_passOneTick 23 = .ok (.getfield 26, 3) := by decide +kernel
theorem dX4_passOneTick_26 : decode cX4_passOneTick 26 = .ok (.invokevirtual 58, 3) := by decide +kernel
theorem dX4_passOneTick_29 : decode cX4_passOneTick 29 = .ok (.if_icmp .ge 24, 3) := by decide +kernel
theorem dX4_passOneTick_32 : decode cX4_passOneTick 32 = .ok (.aload_n 0, 1) := by decide +kernel
theorem dX4_passOneTick_33 : decode cX4_passOneTick 33 = .ok (.aload_n 0, 1) := by decide +kernel
theorem dX4_passOneTick_34 : decode cX4_passOneTick 34 = .ok (.getfield 26, 3) := by decide +kernel
theorem dX4_passOneTick_37 : decode cX4_passOneTick 37 = .ok (.iload_n 1, 1) := by decide +kernel
theorem dX4_passOneTick_38 : decode cX4_passOneTick 38 = .ok (.invokevirtual 214, 3) := by decide +kernel
theorem dX4_passOneTick_41 : decode cX4_passOneTick 41 = .ok (.checkcast 67, 3) := by decide +kernel
theorem dX4_passOneTick_44 : decode cX4_passOneTick 44 = .ok (.invokevirtual 265, 3) := by decide +kernel
theorem dX4_passOneTick_47 : decode cX4_passOneTick 47 = .ok (.iinc 1 1, 3) := by decide +kernel
theorem dX4_passOneTick_50 : decode cX4_passOneTick 50 = .ok (.goto (-29), 3) := by decide +kernel
theorem dX4_passOneTick_53 : decode cX4_passOneTick 53 = .ok (.aload_n 0, 1) := by decide +kernel
theorem dX4_passOneTick_54 : decode cX4_passOneTick 54 = .ok (.invokevirtual 269, 3) := by decide +kernel
theorem dX4_passOneTick_57 : decode cX4_passOneTick 57 = .ok (.aload_n 0, 1) := by decide +kernel
theorem dX4_passOneTick_58 : decode cX4_passOneTick 58 = .ok (.dup, 1) := by decide +kernel
theorem dX4_passOneTick_59 : decode cX4_passOneTick 59 = .ok (.getfield 38, 3) := by decide +kernel
theorem dX4_passOneTick_62 : decode cX4_passOneTick 62 = .ok (.iconst 1, 1) := by decide +kernel
theorem dX4_passOneTick_63 : decode cX4_passOneTick 63 = .ok (.iadd, 1) := by decide +kernel
theorem dX4_passOneTick_64 : decode cX4_passOneTick 64 = .ok (.putfield 38, 3) := by decide +kernel
theorem dX4_passOneTick_67 : decode cX4_passOneTick 67 = .ok (.aload_n 0, 1) := by decide +kernel
theorem dX4_passOneTick_68 : decode cX4_passOneTick 68 = .ok (.getfield 32, 3) := by decide +kernel
theorem dX4_passOneTick_71 : decode cX4_passOneTick 71 = .ok (.invokevirtual 195, 3) := by decide +kernel
theorem dX4_passOneTick_74 : decode cX4_passOneTick 74 = .ok (.ifCond .eq 8, 3) := by decide +kernel
theorem dX4_passOneTick_77 : decode cX4_passOneTick 77 = .ok (.aload_n 0, 1) := by decide +kernel
theorem dX4_passOneTick_78 : decode cX4_passOneTick 78 = .ok (.iconst (-1), 1) := by decide +kernel
theorem dX4_passOneTick_79 : decode cX4_passOneTick 79 = .ok (.putfield 42, 3) := by decide +kernel
theorem dX4_passOneTick_82 : decode cX4_passOneTick 82 = .ok (.return_, 1) := by decide +kernel
theorem dX4_countWaiting_0 : decode cX4_countWaiting 0 = .ok (.iconst 0, 1) := by decide +kernel
theorem dX4_countWaiting_1 : decode cX4_countWaiting 1 = .ok (.istore_n 1, 1) := by decide +kernel
theorem dX4_countWaiting_2 : decode cX4_countWaiting 2 = .ok (.iload_n 1, 1) := by decide +kernel
theorem dX4_countWaiting_3 : decode cX4_countWaiting 3 = .ok (.aload_n 0, 1) := by decide +kernel
theorem dX4_countWaiting_4 : decode cX4_countWaiting 4 = .ok (.getfield 32, 3) := by decide +kernel
theorem dX4_countWaiting_7 : decode cX4_countWaiting 7 = .ok (.invokevirtual 58, 3) := by decide +kernel
theorem dX4_countWaiting_10 : decode cX4_countWaiting 10 = .ok (.if_icmp .ge 40, 3) := by decide +kernel
theorem dX4_countWaiting_13 : decode cX4_countWaiting 13 = .ok (.aload_n 0, 1) := by decide +kernel
theorem dX4_countWaiting_14 : decode cX4_countWaiting 14 = .ok (.getfield 32, 3) := by decide +kernel
theorem dX4_countWaiting_17 : decode cX4_countWaiting 17 = .ok (.iload_n 1, 1) := by decide +kernel
theorem dX4_countWaiting_18 : decode cX4_countWaiting 18 = .ok (.invokevirtual 214, 3) := by decide +kernel
theorem dX4_countWaiting_21 : decode cX4_countWaiting 21 = .ok (.checkcast 123, 3) := by decide +kernel
theorem dX4_countWaiting_24 : decode cX4_countWaiting 24 = .ok (.astore_n 2, 1) := by decide +kernel
theorem dX4_countWaiting_25 : decode cX4_countWaiting 25 = .ok (.aload_n 2, 1) := by decide +kernel
theorem dX4_countWaiting_26 : decode cX4_countWaiting 26 = .ok (.getfield 140, 3) := by decide +kernel
theorem dX4_countWaiting_29 : decode cX4_countWaiting 29 = .ok (.bipush 119, 2) := by decide +kernel
theorem dX4_countWaiting_31 : decode cX4_countWaiting 31 = .ok (.if_icmp .ne 13, 3) := by decide +kernel
theorem dX4_countWaiting_34 : decode cX4_countWaiting 34 = .ok (.aload_n 2, 1) := by decide +kernel
theorem dX4_countWaiting_35 : decode cX4_countWaiting 35 = .ok (.dup, 1) := by decide +kernel
theorem dX4_countWaiting_36 : decode cX4_countWaiting 36 = .ok (.getfield 160, 3) := by decide +kernel
theorem dX4_countWaiting_39 : decode cX4_countWaiting 39 = .ok (.iconst 1, 1) := by decide +kernel
theorem dX4_countWaiting_40 : decode cX4_countWaiting 40 = .ok (.iadd, 1) := by decide +kernel
theorem dX4_countWaiting_41 : decode cX4_countWaiting 41 = .ok (.putfield 160, 3) := by decide +kernel
theorem dX4_countWaiting_44 : decode cX4_countWaiting 44 = .ok (.iinc 1 1, 3) := by decide +kernel
theorem dX4_countWaiting_47 : decode cX4_countWaiting 47 = .ok (.goto (-45), 3) := by decide +kernel
theorem dX4_countWaiting_50 : decode cX4_countWaiting 50 = .ok (.return_, 1) := by decide +kernel
theorem dX4_runLift_0 : decode cX4_runLift 0 = .ok (.aload_n 1, 1) := by decide +kernel
theorem dX4_runLift_1 : decode cX4_runLift 1 = .ok (.getfield 171, 3) := by decide +kernel
theorem dX4_runLift_4 : decode cX4_runLift 4 = .ok (.bipush 99, 2) := by decide +kernel
theorem dX4_runLift_6 : decode cX4_runLift 6 = .ok (.if_icmp .ne 8, 3) := by decide +kernel
theorem dX4_runLift_9 : decode cX4_runLift 9 = .ok (.aload_n 1, 1) := by decide +kernel
theorem dX4_runLift_10 : decode cX4_runLift 10 = .ok (.invokevirtual 272, 3) := by decide +kernel
theorem dX4_runLift_13 : decode cX4_runLift 13 = .ok (.return_, 1) := by decide +kernel
theorem dX4_runLift_14 : decode cX4_runLift 14 = .ok (.aload_n 0, 1) := by decide +kernel
theorem dX4_runLift_15 : decode cX4_runLift 15 = .ok (.aload_n 1, 1) := by decide +kernel
theorem dX4_runLift_16 : decode cX4_runLift 16 = .ok (.invokevirtual 275, 3) := by decide +kernel
theorem dX4_runLift_19 : decode cX4_runLift 19 = .ok (.istore_n 2, 1) := by decide +kernel
theorem dX4_runLift_20 : decode cX4_runLift 20 = .ok (.aload_n 0, 1) := by decide +kernel
theorem dX4_runLift_21 : decode cX4_runLift 21 = .ok (.aload_n 1, 1) := by decide +kernel
theorem dX4_runLift_22 : decode cX4_runLift 22 = .ok (.invokevirtual 278, 3) := by decide +kernel
theorem dX4_runLift_25 : decode cX4_runLift 25 = .ok (.istore_n 3, 1) := by decide +kernel
theorem dX4_runLift_26 : decode cX4_runLift 26 = .ok (.iload_n 2, 1) := by decide +kernel
theorem dX4_runLift_27 : decode cX4_runLift 27 = .ok (.ifCond .ne 7, 3) := by decide +kernel
theorem dX4_runLift_30 : decode cX4_runLift 30 = .ok (.iload_n 3, 1) := by decide +kernel
theorem dX4_runLift_31 : decode cX4_runLift 31 = .ok (.ifCond .eq 16, 3) := by decide +kernel
theorem dX4_runLift_34 : decode cX4_runLift 34 = .ok (.aload_n 0, 1) := by decide +kernel
theorem dX4_runLift_35 : decode cX4_runLift 35 = .ok (.dup, 1) := by decide +kernel
theorem dX4_runLift_36 : decode cX4_runLift 36 = .ok (.getfield 45, 3) := by decide +kernel
theorem dX4_runLift_39 : decode cX4_runLift 39 = .ok (.iconst 1, 1) := by decide +kernel
theorem dX4_runLift_40 : decode cX4_runLift 40 = .ok (.iadd, 1) := by decide +kernel
theorem dX4_runLift_41 : decode cX4_runLift 41 = .ok (.putfield 45, 3) := by decide +kernel
theorem dX4_runLift_44 : decode cX4_runLift 44 = .ok (.goto 8, 3) := by decide +kernel
theorem dX4_runLift_47 : decode cX4_runLift 47 = .ok (.aload_n 0, 1) := by decide +kernel
theorem dX4_runLift_48 : decode cX4_runLift 48 = .ok (.aload_n 1, 1) := by decide +kernel
theorem dX4_runLift_49 : decode cX4_runLift 49 = .ok (.invokevirtual 281, 3) := by decide +kernel
theorem dX4_runLift_52 : decode cX4_runLift 52 = .ok (.return_, 1) := by decide +kernel
theorem dX4_letOut_0 : decode cX4_letOut 0 = .ok (.aload_n 0, 1) := by decide +kernel
theorem dX4_letOut_1 : decode cX4_letOut 1 = .ok (.getfield 32, 3) := by decide +kernel
theorem dX4_letOut_4 : decode cX4_letOut 4 = .ok (.invokevirtual 58, 3) := by decide +kernel
theorem dX4_letOut_7 : decode cX4_letOut 7 = .ok (.istore_n 2, 1) := by decide +kernel
theorem dX4_letOut_8 : decode cX4_letOut 8 = .ok (.iload_n 2, 1) := by decide +kernel
theorem dX4_letOut_9 : decode cX4_letOut 9 = .ok (.iconst 1, 1) := by decide +kernel
theorem dX4_letOut_10 : decode cX4_letOut 10 = .ok (.isub, 1) := by decide +kernel
theorem dX4_letOut_11 : decode cX4_letOut 11 = .ok (.istore_n 3, 1) := by decide +kernel
theorem dX4_letOut_12 : decode cX4_letOut 12 = .ok (.iload_n 3, 1) := by decide +kernel
theorem dX4_letOut_13 : decode cX4_letOut 13 = .ok (.ifCond .lt 99, 3) := by decide +kernel
theorem dX4_letOut_16 : decode cX4_letOut 16 = .ok (.aload_n 0, 1) := by decide +kernel
theorem dX4_letOut_17 : decode cX4_letOut 17 = .ok (.getfield 32, 3) := by decide +kernel
theorem dX4_letOut_20 : decode cX4_letOut 20 = .ok (.iload_n 3, 1) := by decide +kernel
theorem dX4_letOut_21 : decode cX4_letOut 21 = .ok (.invokevirtual 214, 3) := by decide +kernel
theorem dX4_letOut_24 : decode cX4_letOut 24 = .ok (.checkcast 123, 3) := by decide +kernel
theorem dX4_letOut_27 : decode cX4_letOut 27 = .ok (.astore 4, 2) := by decide +kernel
theorem dX4_letOut_29 : decode cX4_letOut 29 = .ok (.aload 4, 2) := by decide +kernel
theorem dX4_letOut_31 : decode cX4_letOut 31 = .ok (.aload_n 1, 1) := by decide +kernel
theorem dX4_letOut_32 : decode cX4_letOut 32 = .ok (.invokevirtual 231, 3) := by decide +kernel
theorem dX4_letOut_35 : decode cX4_letOut 35 = .ok (.ifCond .eq 71, 3) := by decide +kernel
theorem dX4_letOut_38 : decode cX4_letOut 38 = .ok (.aload 4, 2) := by decide +kernel
theorem dX4_letOut_40 : decode cX4_letOut 40 = .ok (.getfield 152, 3) := by decide +kernel
theorem dX4_letOut_43 : decode cX4_letOut 43 = .ok (.aload_n 1, 1) := by decide +kernel
theorem dX4_letOut_44 : decode cX4_letOut 44 = .ok (.getfield 148, 3) := by decide +kernel
theorem dX4_letOut_47 : decode cX4_letOut 47 = .ok (.if_icmp .ne 59, 3) := by decide +kernel
theorem dX4_letOut_50 : decode cX4_letOut 50 = .ok (.aload_n 0, 1) := by decide +kernel
theorem dX4_letOut_51 : decode cX4_letOut 51 = .ok (.aload 4, 2) := by decide +kernel
theorem dX4_letOut_53 : decode cX4_letOut 53 = .ok (.getfield 227, 3) := by decide +kernel
theorem dX4_letOut_56 : decode cX4_letOut 56 = .ok (.aload_n 1, 1) := by decide +kernel
theorem dX4_letOut_57 : decode cX4_letOut 57 = .ok (.getfield 148, 3) := by decide +kernel
theorem dX4_letOut_60 : decode cX4_letOut 60 = .ok (.invokevirtual 106, 3) := by decide +kernel
theorem dX4_letOut_63 : decode cX4_letOut 63 = .ok (.bipush 110, 2) := by decide +kernel
theorem dX4_letOut_65 : decode cX4_letOut 65 = .ok (.if_icmp .ne 25, 3) := by decide +kernel
theorem dX4_letOut_68 : decode cX4_letOut 68 = .ok (.aload_n 0, 1) := by decide +kernel
theorem dX4_letOut_69 : decode cX4_letOut 69 = .ok (.getfield 32, 3) := by decide +kernel
theorem dX4_letOut_72 : decode cX4_letOut 72 = .ok (.iload_n 3, 1) := by decide +kernel
theorem dX4_letOut_73 : decode cX4_letOut 73 = .ok (.invokevirtual 284, 3) := by decide +kernel
theorem dX4_letOut_76 : decode cX4_letOut 76 = .ok (.pop, 1) := by decide +kernel
theorem dX4_letOut_77 : decode cX4_letOut 77 = .ok (.aload_n 0, 1) := by decide +kernel
theorem dX4_letOut_78 : decode cX4_letOut 78 = .ok (.aload 4, 2) := by decide +kernel
theorem dX4_letOut_80 : decode cX4_letOut 80 = .ok (.aload_n 1, 1) := by decide +kernel
theorem dX4_letOut_81 : decode cX4_letOut 81 = .ok (.getfield 148, 3) := by decide +kernel
theorem dX4_letOut_84 : decode cX4_letOut 84 = .ok (.invokevirtual 287, 3) := by decide +kernel
theorem dX4_letOut_87 : decode cX4_letOut 87 = .ok (.goto 19, 3) := by decide +kernel
theorem dX4_letOut_90 : decode cX4_letOut 90 = .ok (.aload 4, 2) := by decide +kernel
theorem dX4_letOut_92 : decode cX4_letOut 92 = .ok (.iconst 0, 1) := by decide +kernel
theorem dX4_letOut_93 : decode cX4_letOut 93 = .ok (.putfield 152, 3) := by decide +kernel
theorem dX4_letOut_96 : decode cX4_letOut 96 = .ok (.aload_n 0, 1) := by decide +kernel
theorem dX4_letOut_97 : decode cX4_letOut 97 = .ok (.dup, 1) := by decide +kernel
theorem dX4_letOut_98 : decode cX4_letOut 98 = .ok (.getfield 48, 3) := by decide +kernel
theorem dX4_letOut_101 : decode cX4_letOut 101 = .ok (.iconst 1, 1) := by decide +kernel
theorem dX4_letOut_102 : decode cX4_letOut 102 = .ok (.iadd, 1) := by decide +kernel
theorem dX4_letOut_103 : decode cX4_letOut 103 = .ok (.putfield 48, 3) := by decide +kernel
theorem dX4_letOut_106 : decode cX4_letOut 106 = .ok (.iinc 3 (-1), 3) := by decide +kernel
theorem dX4_letOut_109 : decode cX4_letOut 109 = .ok (.goto (-97), 3) := by decide +kernel
theorem dX4_letOut_112 : decode cX4_letOut 112 = .ok (.aload_n 0, 1) := by decide +kernel
theorem dX4_letOut_113 : decode cX4_letOut 113 = .ok (.getfield 32, 3) := by decide +kernel
theorem dX4_letOut_116 : decode cX4_letOut 116 = .ok (.invokevirtual 58, 3) := by decide +kernel
theorem dX4_letOut_119 : decode cX4_letOut 119 = .ok (.iload_n 2, 1) := by decide +kernel
theorem dX4_letOut_120 : decode cX4_letOut 120 = .ok (.if_icmp .ge 7, 3) := by decide +kernel
theorem dX4_letOut_123 : decode cX4_letOut 123 = .ok (.iconst 1, 1) := by decide +kernel
theorem dX4_letOut_124 : decode cX4_letOut 124 = .ok (.goto 4, 3) := by decide +kernel
theorem dX4_letOut_127 : decode cX4_letOut 127 = .ok (.iconst 0, 1) := by decide +kernel
theorem dX4_letOut_128 : decode cX4_letOut 128 = .ok (.ireturn, 1) := by decide +kernel
theorem dX4_letIn_0 : decode cX4_letIn 0 = .ok (.iconst 0, 1) := by decide +kernel
theorem dX4_letIn_1 : decode cX4_letIn 1 = .ok (.istore_n 2, 1) := by decide +kernel
theorem dX4_letIn_2 : decode cX4_letIn 2 = .ok (.iconst 0, 1) := by decide +kernel
theorem dX4_letIn_3 : decode cX4_letIn 3 = .ok (.istore_n 3, 1) := by decide +kernel
theorem dX4_letIn_4 : decode cX4_letIn 4 = .ok (.iload_n 3, 1) := by decide +kernel
theorem dX4_letIn_5 : decode cX4_letIn 5 = .ok (.aload_n 0, 1) := by decide +kernel
theorem dX4_letIn_6 : decode cX4_letIn 6 = .ok (.getfield 32, 3) := by decide +kernel
theorem dX4_letIn_9 : decode cX4_letIn 9 = .ok (.invokevirtual 58, 3) := by decide +kernel
theorem dX4_letIn_12 : decode cX4_letIn 12 = .ok (.if_icmp .ge 59, 3) := by decide +kernel
theorem dX4_letIn_15 : decode cX4_letIn 15 = .ok (.aload_n 0, 1) := by decide +kernel
theorem dX4_letIn_16 : decode cX4_letIn 16 = .ok (.getfield 32, 3) := by decide +kernel
theorem dX4_letIn_19 : decode cX4_letIn 19 = .ok (.iload_n 3, 1) := by decide +kernel
theorem dX4_letIn_20 : decode cX4_letIn 20 = .ok (.invokevirtual 214, 3) := by decide +kernel
theorem dX4_letIn_23 : decode cX4_letIn 23 = .ok (.checkcast 123, 3) := by decide +kernel
theorem dX4_letIn_26 : decode cX4_letIn 26 = .ok (.astore 4, 2) := by decide +kernel
theorem dX4_letIn_28 : decode cX4_letIn 28 = .ok (.aload 4, 2) := by decide +kernel
theorem dX4_letIn_30 : decode cX4_letIn 30 = .ok (.aload_n 1, 1) := by decide +kernel
theorem dX4_letIn_31 : decode cX4_letIn 31 = .ok (.invokevirtual 256, 3) := by decide +kernel
theorem dX4_letIn_34 : decode cX4_letIn 34 = .ok (.ifCond .eq 31, 3) := by decide +kernel
theorem dX4_letIn_37 : decode cX4_letIn 37 = .ok (.aload 4, 2) := by decide +kernel
theorem dX4_letIn_39 : decode cX4_letIn 39 = .ok (.getfield 151, 3) := by decide +kernel
theorem dX4_letIn_42 : decode cX4_letIn 42 = .ok (.aload_n 1, 1) := by decide +kernel
theorem dX4_letIn_43 : decode cX4_letIn 43 = .ok (.getfield 148, 3) := by decide +kernel
theorem dX4_letIn_46 : decode cX4_letIn 46 = .ok (.if_icmp .ne 19, 3) := by decide +kernel
theorem dX4_letIn_49 : decode cX4_letIn 49 = .ok (.aload_n 0, 1) := by decide +kernel
theorem dX4_letIn_50 : decode cX4_letIn 50 = .ok (.aload_n 1, 1) := by decide +kernel
theorem dX4_letIn_51 : decode cX4_letIn 51 = .ok (.invokevirtual 291, 3) := by decide +kernel
theorem dX4_letIn_54 : decode cX4_letIn 54 = .ok (.ifCond .eq 11, 3) := by decide +kernel
theorem dX4_letIn_57 : decode cX4_letIn 57 = .ok (.aload_n 0, 1) := by decide +kernel
theorem dX4_letIn_58 : decode cX4_letIn 58 = .ok (.aload 4, 2) := by decide +kernel
theorem dX4_letIn_60 : decode cX4_letIn 60 = .ok (.invokevirtual 294, 3) := by decide +kernel
theorem dX4_letIn_63 : decode cX4_letIn 63 = .ok (.iconst 1, 1) := by decide +kernel
theorem dX4_letIn_64 : decode cX4_letIn 64 = .ok (.istore_n 2, 1) := by decide +kernel
theorem dX4_letIn_65 : decode cX4_letIn 65 = .ok (.iinc 3 1, 3) := by decide +kernel
theorem dX4_letIn_68 : decode cX4_letIn 68 = .ok (.goto (-64), 3) := by decide +kernel
theorem dX4_letIn_71 : decode cX4_letIn 71 = .ok (.iload_n 2, 1) := by decide +kernel
theorem dX4_letIn_72 : decode cX4_letIn 72 = .ok (.ireturn, 1) := by decide +kernel
theorem dX4_move_0 : decode cX4_move 0 = .ok (.aload_n 1, 1) := by decide +kernel
theorem dX4_move_1 : decode cX4_move 1 = .ok (.getfield 180, 3) := by decide +kernel
theorem dX4_move_4 : decode cX4_move 4 = .ok (.ifCond .eq 7, 3) := by decide +kernel
theorem dX4_move_7 : decode cX4_move 7 = .ok (.iconst 1, 1) := by decide +kernel
theorem dX4_move_8 : decode cX4_move 8 = .ok (.goto 4, 3) := by decide +kernel
theorem dX4_move_11 : decode cX4_move 11 = .ok (.iconst (-1), 1) := by decide +kernel
theorem dX4_move_12 : decode cX4_move 12 = .ok (.istore_n 2, 1) := by decide +kernel
theorem dX4_move_13 : decode cX4_move 13 = .ok (.aload_n 0, 1) := by decide +kernel
theorem dX4_move_14 : decode cX4_move 14 = .ok (.aload_n 1, 1) := by decide +kernel
theorem dX4_move_15 : decode cX4_move 15 = .ok (.invokevirtual 291, 3) := by decide +kernel
theorem dX4_move_18 : decode cX4_move 18 = .ok (.istore_n 3, 1) := by decide +kernel
theorem dX4_move_19 : decode cX4_move 19 = .ok (.aload_n 0, 1) := by decide +kernel
theorem dX4_move_20 : decode cX4_move 20 = .ok (.aload_n 1, 1) := by decide +kernel
theorem dX4_move_21 : decode cX4_move 21 = .ok (.iload_n 2, 1) := by decide +kernel
theorem dX4_move_22 : decode cX4_move 22 = .ok (.iload_n 3, 1) := by decide +kernel
theorem dX4_move_23 : decode cX4_move 23 = .ok (.invokevirtual 297, 3) := by decide +kernel
theorem dX4_move_26 : decode cX4_move 26 = .ok (.ifCond .eq 16, 3) := by decide +kernel
theorem dX4_move_29 : decode cX4_move 29 = .ok (.aload_n 1, 1) := by decide +kernel
theorem dX4_move_30 : decode cX4_move 30 = .ok (.dup, 1) := by decide +kernel
theorem dX4_move_31 : decode cX4_move 31 = .ok (.getfield 148, 3) := by decide +kernel
theorem dX4_move_34 : decode cX4_move 34 = .ok (.iload_n 2, 1) := by decide +kernel
theorem dX4_move_35 : decode cX4_move 35 = .ok (.iadd, 1) := by decide +kernel
theorem dX4_move_36 : decode cX4_move 36 = .ok (.putfield 148, 3) := by decide +kernel
theorem dX4_move_39 : decode cX4_move 39 = .ok (.goto 64, 3) := by decide +kernel
theorem dX4_move_42 : decode cX4_move 42 = .ok (.aload_n 0, 1) := by decide +kernel
theorem dX4_move_43 : decode cX4_move 43 = .ok (.aload_n 1, 1) := by decide +kernel
theorem dX4_move_44 : decode cX4_move 44 = .ok (.iload_n 2, 1) := by decide +kernel
theorem dX4_move_45 : decode cX4_move 45 = .ok (.ineg, 1) := by decide +kernel
theorem dX4_move_46 : decode cX4_move 46 = .ok (.iload_n 3, 1) := by decide +kernel
theorem dX4_move_47 : decode cX4_move 47 = .ok (.invokevirtual 297, 3) := by decide +kernel
theorem dX4_move_50 : decode cX4_move 50 = .ok (.ifCond .eq 32, 3) := by decide +kernel
theorem dX4_move_53 : decode cX4_move 53 = .ok (.aload_n 1, 1) := by decide +kernel
theorem dX4_move_54 : decode cX4_move 54 = .ok (.aload_n 1, 1) := by decide +kernel
theorem dX4_move_55 : decode cX4_move 55 = .ok (.getfield 180, 3) := by decide +kernel
theorem dX4_move_58 : decode cX4_move 58 = .ok (.ifCond .ne 7, 3) := by decide +kernel
theorem dX4_move_61 : decode cX4_move 61 = .ok (.iconst 1, 1) := by decide +kernel
theorem dX4_move_62 : decode cX4_move 62 = .ok (.goto 4, 3) := by decide +kernel
theorem dX4_move_65 : decode cX4_move 65 = .ok (.iconst 0, 1) := by decide +kernel
theorem dX4_move_66 : decode cX4_move 66 = .ok (.putfield 180, 3) := by decide +kernel
theorem dX4_move_69 : decode cX4_move 69 = .ok (.aload_n 1, 1) := by decide +kernel
theorem dX4_move_70 : decode cX4_move 70 = .ok (.dup, 1) := by decide +kernel
theorem dX4_move_71 : decode cX4_move 71 = .ok (.getfield 148, 3) := by decide +kernel
theorem dX4_move_74 : decode cX4_move 74 = .ok (.iload_n 2, 1) := by decide +kernel
theorem dX4_move_75 : decode cX4_move 75 = .ok (.isub, 1) := by decide +kernel
theorem dX4_move_76 : decode cX4_move 76 = .ok (.putfield 148, 3) := by decide +kernel
theorem dX4_move_79 : decode cX4_move 79 = .ok (.goto 24, 3) := by decide +kernel
theorem dX4_move_82 : decode cX4_move 82 = .ok (.aload_n 1, 1) := by decide +kernel
theorem dX4_move_83 : decode cX4_move 83 = .ok (.getfield 171, 3) := by decide +kernel
theorem dX4_move_86 : decode cX4_move 86 = .ok (.bipush 111, 2) := by decide +kernel
theorem dX4_move_88 : decode cX4_move 88 = .ok (.if_icmp .ne 15, 3) := by decide +kernel
theorem dX4_move_91 : decode cX4_move 91 = .ok (.aload_n 1, 1) := by decide +kernel
theorem dX4_move_92 : decode cX4_move 92 = .ok (.bipush 99, 2) := by decide +kernel
theorem dX4_move_94 : decode cX4_move 94 = .ok (.putfield 171, 3) := by decide +kernel
theorem dX4_move_97 : decode cX4_move 97 = .ok (.aload_n 1, 1) := by decide +kernel
theorem dX4_move_98 : decode cX4_move 98 = .ok (.bipush 20, 2) := by decide +kernel
theorem dX4_move_100 : decode cX4_move 100 = .ok (.putfield 301, 3) := by decide +kernel
theorem dX4_move_103 : decode cX4_move 103 = .ok (.return_, 1) := by decide +kernel
theorem dX4_hasAimTowards_0 : decode cX4_hasAimTowards 0 = .ok (.iconst 0, 1) := by decide +kernel
theorem dX4_hasAimTowards_1 : decode cX4_hasAimTowards 1 = .ok (.istore 4, 2) := by decide +kernel
theorem dX4_hasAimTowards_3 : decode cX4_hasAimTowards 3 = .ok (.iload 4, 2) := by decide +kernel
theorem dX4_hasAimTowards_5 : decode cX4_hasAimTowards 5 = .ok (.aload_n 0, 1) := by decide +kernel
theorem dX4_hasAimTowards_6 : decode cX4_hasAimTowards 6 = .ok (.getfield 32, 3) := by decide +kernel
theorem dX4_hasAimTowards_9 : decode cX4_hasAimTowards 9 = .ok (.invokevirtual 58, 3) := by decide +kernel
theorem dX4_hasAimTowards_12 : decode cX4_hasAimTowards 12 = .ok (.if_icmp .ge 79, 3) := by decide +kernel
theorem dX4_hasAimTowards_15 : decode cX4_hasAimTowards 15 = .ok (.aload_n 0, 1) := by decide +kernel
theorem dX4_hasAimTowards_16 : decode cX4_hasAimTowards 16 = .ok (.getfield 32, 3) := by decide +kernel
theorem dX4_hasAimTowards_19 : decode cX4_hasAimTowards 19 = .ok (.iload 4, 2) := by decide +kernel
theorem dX4_hasAimTowards_21 : decode cX4_hasAimTowards 21 = .ok (.invokevirtual 214, 3) := by decide +kernel
theorem dX4_hasAimTowards_24 : decode cX4_hasAimTowards 24 = .ok (.checkcast 123, 3) := by decide +kernel
theorem dX4_hasAimTowards_27 : decode cX4_hasAimTowards 27 = .ok (.astore 5, 2) := by decide +kernel
theorem dX4_hasAimTowards_29 : decode cX4_hasAimTowards 29 = .ok (.aload 5, 2) := by decide +kernel
theorem dX4_hasAimTowards_31 : decode cX4_hasAimTowards 31 = .ok (.aload_n 1, 1) := by decide +kernel
theorem dX4_hasAimTowards_32 : decode cX4_hasAimTowards 32 = .ok (.invokevirtual 231, 3) := by decide +kernel
theorem dX4_hasAimTowards_35 : decode cX4_hasAimTowards 35 = .ok (.ifCond .eq 20, 3) := by decide +kernel
theorem dX4_hasAimTowards_38 : decode cX4_hasAimTowards 38 = .ok (.aload 5, 2) := by decide +kernel
theorem dX4_hasAimTowards_40 : decode cX4_hasAimTowards 40 = .ok (.getfield 152, 3) := by decide +kernel
theorem dX4_hasAimTowards_43 : decode cX4_hasAimTowards 43 = .ok (.aload_n 1, 1) := by decide +kernel
theorem dX4_hasAimTowards_44 : decode cX4_hasAimTowards 44 = .ok (.getfield 148, 3) := by decide +kernel
theorem dX4_hasAimTowards_47 : decode cX4_hasAimTowards 47 = .ok (.isub, 1) := by decide +kernel
theorem dX4_hasAimTowards_48 : decode cX4_hasAimTowards 48 = .ok (.iload_n 2, 1) := by decide +kernel
theorem dX4_hasAimTowards_49 : decode cX4_hasAimTowards 49 = .ok (.imul, 1) := by decide +kernel
theorem dX4_hasAimTowards_50 : decode cX4_hasAimTowards 50 = .ok (.ifCond .le 5, 3) := by decide +kernel
theorem dX4_hasAimTowards_53 : decode cX4_hasAimTowards 53 = .ok (.iconst 1, 1) := by decide +kernel
theorem dX4_hasAimTowards_54 : decode cX4_hasAimTowards 54 = .ok (.ireturn, 1) := by decide +kernel
theorem dX4_hasAimTowards_55 : decode cX4_hasAimTowards 55 = .ok (.iload_n 3, 1) := by decide +kernel
theorem dX4_hasAimTowards_56 : decode cX4_hasAimTowards 56 = .ok (.ifCond .eq 29, 3) := by decide +kernel
theorem dX4_hasAimTowards_59 : decode cX4_hasAimTowards 59 = .ok (.aload 5, 2) := by decide +kernel
theorem dX4_hasAimTowards_61 : decode cX4_hasAimTowards 61 = .ok (.aload_n 1, 1) := by decide +kernel
theorem dX4_hasAimTowards_62 : decode cX4_hasAimTowards 62 = .ok (.invokevirtual 256, 3) := by decide +kernel
theorem dX4_hasAimTowards_65 : decode cX4_hasAimTowards 65 = .ok (.ifCond .eq 20, 3) := by decide +kernel
theorem dX4_hasAimTowards_68 : decode cX4_hasAimTowards 68 = .ok (.aload 5, 2) := by decide +kernel
theorem dX4_hasAimTowards_70 : decode cX4_hasAimTowards 70 = .ok (.getfield 151, 3) := by decide +kernel
theorem dX4_hasAimTowards_73 : decode cX4_hasAimTowards 73 = .ok (.aload_n 1, 1) := by decide +kernel
theorem dX4_hasAimTowards_74 : decode cX4_hasAimTowards 74 = .ok (.getfield 148, 3) := by decide +kernel
theorem dX4_hasAimTowards_77 : decode cX4_hasAimTowards 77 = .ok (.isub, 1) := by decide +kernel
theorem dX4_hasAimTowards_78 : decode cX4_hasAimTowards 78 = .ok (.iload_n 2, 1) := by decide +kernel
theorem dX4_hasAimTowards_79 : decode cX4_hasAimTowards 79 = .ok (.imul, 1) := by decide +kernel
theorem dX4_hasAimTowards_80 : decode cX4_hasAimTowards 80 = .ok (.ifCond .le 5, 3) := by decide +kernel
theorem dX4_hasAimTowards_83 : decode cX4_hasAimTowards 83 = .ok (.iconst 1, 1) := by decide +kernel
theorem dX4_hasAimTowards_84 : decode cX4_hasAimTowards 84 = .ok (.ireturn, 1) := by decide +kernel
theorem dX4_hasAimTowards_85 : decode cX4_hasAimTowards 85 = .ok (.iinc 4 1, 3) := by decide +kernel
theorem dX4_hasAimTowards_88 : decode cX4_hasAimTowards 88 = .ok (.goto (-85), 3) := by decide +kernel
theorem dX4_hasAimTowards_91 : decode cX4_hasAimTowards 91 = .ok (.iconst 0, 1) := by decide +kernel
theorem dX4_hasAimTowards_92 : decode cX4_hasAimTowards 92 = .ok (.ireturn, 1) := by decide +kernel
theorem dX4_sendAllToLobby_0 : decode cX4_sendAllToLobby 0 = .ok (.aload_n 0, 1) := by decide +kernel
theorem dX4_sendAllToLobby_1 : decode cX4_sendAllToLobby 1 = .ok (.getfield 32, 3) := by decide +kernel
theorem dX4_sendAllToLobby_4 : decode cX4_sendAllToLobby 4 = .ok (.invokevirtual 58, 3) := by decide +kernel
theorem dX4_sendAllToLobby_7 : decode cX4_sendAllToLobby 7 = .ok (.iconst 1, 1) := by decide +kernel
theorem dX4_sendAllToLobby_8 : decode cX4_sendAllToLobby 8 = .ok (.isub, 1) := by decide +kernel
theorem dX4_sendAllToLobby_9 : decode cX4_sendAllToLobby 9 = .ok (.istore_n 1, 1) := by decide +kernel
theorem dX4_sendAllToLobby_10 : decode cX4_sendAllToLobby 10 = .ok (.iload_n 1, 1) := by decide +kernel
theorem dX4_sendAllToLobby_11 : decode cX4_sendAllToLobby 11 = .ok (.ifCond .lt 62, 3) := by decide +kernel
theorem dX4_sendAllToLobby_14 : decode cX4_sendAllToLobby 14 = .ok (.aload_n 0, 1) := by decide +kernel
theorem dX4_sendAllToLobby_15 : decode cX4_sendAllToLobby 15 = .ok (.getfield 32, 3) := by decide +kernel
theorem dX4_sendAllToLobby_18 : decode cX4_sendAllToLobby 18 = .ok (.iload_n 1, 1) := by decide +kernel
theorem dX4_sendAllToLobby_19 : decode cX4_sendAllToLobby 19 = .ok (.invokevirtual 214, 3) := by decide +kernel
theorem dX4_sendAllToLobby_22 : decode cX4_sendAllToLobby 22 = .ok (.checkcast 123, 3) := by decide +kernel
theorem dX4_sendAllToLobby_25 : decode cX4_sendAllToLobby 25 = .ok (.astore_n 2, 1) := by decide +kernel
theorem dX4_sendAllToLobby_26 : decode cX4_sendAllToLobby 26 = .ok (.aload_n 2, 1) := by decide +kernel
theorem dX4_sendAllToLobby_27 : decode cX4_sendAllToLobby 27 = .ok (.iconst 0, 1) := by decide +kernel
theorem dX4_sendAllToLobby_28 : decode cX4_sendAllToLobby 28 = .ok (.putfield 152, 3) := by decide +kernel
theorem dX4_sendAllToLobby_31 : decode cX4_sendAllToLobby 31 = .ok (.aload_n 2, 1) := by decide +kernel
theorem dX4_sendAllToLobby_32 : decode cX4_sendAllToLobby 32 = .ok (.getfield 140, 3) := by decide +kernel
theorem dX4_sendAllToLobby_35 : decode cX4_sendAllToLobby 35 = .ok (.bipush 119, 2) := by decide +kernel
theorem dX4_sendAllToLobby_37 : decode cX4_sendAllToLobby 37 = .ok (.if_icmp .ne 30, 3) := by decide +kernel
theorem dX4_sendAllToLobby_40 : decode cX4_sendAllToLobby 40 = .ok (.aload_n 2, 1) := by decide +kernel
theorem dX4_sendAllToLobby_41 : decode cX4_sendAllToLobby 41 = .ok (.aconst_null, 1) := by decide +kernel
theorem dX4_sendAllToLobby_42 : decode cX4_sendAllToLobby 42 = .ok (.putfield 144, 3) := by decide +kernel
theorem dX4_sendAllToLobby_45 : decode cX4_sendAllToLobby 45 = .ok (.aload_n 2, 1) := by decide +kernel
theorem dX4_sendAllToLobby_46 : decode cX4_sendAllToLobby 46 = .ok (.getfield 151, 3) := by decide +kernel
theorem dX4_sendAllToLobby_49 : decode cX4_sendAllToLobby 49 = .ok (.ifCond .ne 18, 3) := by decide +kernel
theorem dX4_sendAllToLobby_52 : decode cX4_sendAllToLobby 52 = .ok (.aload_n 0, 1) := by decide +kernel
theorem dX4_sendAllToLobby_53 : decode cX4_sendAllToLobby 53 = .ok (.getfield 32, 3) := by decide +kernel
theorem dX4_sendAllToLobby_56 : decode cX4_sendAllToLobby 56 = .ok (.iload_n 1, 1) := by decide +kernel
theorem dX4_sendAllToLobby_57 : decode cX4_sendAllToLobby 57 = .ok (.invokevirtual 284, 3) := by decide +kernel
theorem dX4_sendAllToLobby_60 : decode cX4_sendAllToLobby 60 = .ok (.pop, 1) := by decide +kernel
theorem dX4_sendAllToLobby_61 : decode cX4_sendAllToLobby 61 = .ok (.aload_n 0, 1) := by decide +kernel
theorem dX4_sendAllToLobby_62 : decode cX4_sendAllToLobby 62 = .ok (.aload_n 2, 1) := by decide +kernel
theorem dX4_sendAllToLobby_63 : decode cX4_sendAllToLobby 63 = .ok (.iconst 0, 1) := by decide +kernel
theorem dX4_sendAllToLobby_64 : decode cX4_sendAllToLobby 64 = .ok (.invokevirtual 287, 3) := by decide +kernel
theorem dX4_sendAllToLobby_67 : decode cX4_sendAllToLobby 67 = .ok (.iinc 1 (-1), 3) := by decide +kernel
theorem dX4_sendAllToLobby_70 : decode cX4_sendAllToLobby 70 = .ok (.goto (-60), 3) := by decide +kernel
theorem dX4_sendAllToLobby_73 : decode cX4_sendAllToLobby 73 = .ok (.return_, 1) := by decide +kernel
theorem dX4_floorInTurn_0 : decode cX4_floorInTurn 0 = .ok (.aload_n 0, 1) := by decide +kernel
theorem dX4_floorInTurn_1 : decode cX4_floorInTurn 1 = .ok (.getfield 42, 3) := by decide +kernel
theorem dX4_floorInTurn_4 : decode cX4_floorInTurn 4 = .ok (.iconst (-1), 1) := by decide +kernel
theorem dX4_floorInTurn_5 : decode cX4_floorInTurn 5 = .ok (.if_icmp .ne 5, 3) := by decide +kernel
theorem dX4_floorInTurn_8 : decode cX4_floorInTurn 8 = .ok (.iconst (-1), 1) := by decide +kernel
theorem dX4_floorInTurn_9 : decode cX4_floorInTurn 9 = .ok (.ireturn, 1) := by decide +kernel
theorem dX4_floorInTurn_10 : decode cX4_floorInTurn 10 = .ok (.iconst 0, 1) := by decide +kernel
theorem dX4_floorInTurn_11 : decode cX4_floorInTurn 11 = .ok (.istore_n 1, 1) := by decide +kernel
theorem dX4_floorInTurn_12 : decode cX4_floorInTurn 12 = .ok (.iload_n 1, 1) := by decide +kernel
theorem dX4_floorInTurn_13 : decode cX4_floorInTurn 13 = .ok (.bipush 10, 2) := by decide +kernel
theorem dX4_floorInTurn_15 : decode cX4_floorInTurn 15 = .ok (.if_icmp .ge 49, 3) := by decide +kernel
theorem dX4_floorInTurn_18 : decode cX4_floorInTurn 18 = .ok (.aload_n 0, 1) := by decide +kernel
theorem dX4_floorInTurn_19 : decode cX4_floorInTurn 19 = .ok (.aload_n 0, 1) := by decide +kernel
theorem dX4_floorInTurn_20 : decode cX4_floorInTurn 20 = .ok (.getfield 42, 3) := by decide +kernel
theorem dX4_floorInTurn_23 : decode cX4_floorInTurn 23 = .ok (.iload_n 1, 1) := by decide +kernel
theorem dX4_floorInTurn_24 : decode cX4_floorInTurn 24 = .ok (.iadd, 1) := by decide +kernel
theorem dX4_floorInTurn_25 : decode cX4_floorInTurn 25 = .ok (.invokevirtual 304, 3) := by decide +kernel
theorem dX4_floorInTurn_28 : decode cX4_floorInTurn 28 = .ok (.ifCond .eq 10, 3) := by decide +kernel
theorem dX4_floorInTurn_31 : decode cX4_floorInTurn 31 = .ok (.aload_n 0, 1) := by decide +kernel
theorem dX4_floorInTurn_32 : decode cX4_floorInTurn 32 = .ok (.getfield 42, 3) := by decide +kernel
theorem dX4_floorInTurn_35 : decode cX4_floorInTurn 35 = .ok (.iload_n 1, 1) := by decide +kernel
theorem dX4_floorInTurn_36 : decode cX4_floorInTurn 36 = .ok (.iadd, 1) := by decide +kernel
theorem dX4_floorInTurn_37 : decode cX4_floorInTurn 37 = .ok (.ireturn, 1) := by decide +kernel
theorem dX4_floorInTurn_38 : decode cX4_floorInTurn 38 = .ok (.aload_n 0, 1) := by decide +kernel
theorem dX4_floorInTurn_39 : decode cX4_floorInTurn 39 = .ok (.aload_n 0, 1) := by decide +kernel
theorem dX4_floorInTurn_40 : decode cX4_floorInTurn 40 = .ok (.getfield 42, 3) := by decide +kernel
theorem dX4_floorInTurn_43 : decode cX4_floorInTurn 43 = .ok (.iload_n 1, 1) := by decide +kernel
theorem dX4_floorInTurn_44 : decode cX4_floorInTurn 44 = .ok (.isub, 1) := by decide +kernel
theorem dX4_floorInTurn_45 : decode cX4_floorInTurn 45 = .ok (.invokevirtual 304, 3) := by decide +kernel
theorem dX4_floorInTurn_48 : decode cX4_floorInTurn 48 = .ok (.ifCond .eq 10, 3) := by decide +kernel
theorem dX4_floorInTurn_51 : decode cX4_floorInTurn 51 = .ok (.aload_n 0, 1) := by decide +kernel
theorem dX4_floorInTurn_52 : decode cX4_floorInTurn 52 = .ok (.getfield 42, 3) := by decide +kernel
theorem dX4_floorInTurn_55 : decode cX4_floorInTurn 55 = .ok (.iload_n 1, 1) := by decide +kernel
theorem dX4_floorInTurn_56 : decode cX4_floorInTurn 56 = .ok (.isub, 1) := by decide +kernel
theorem dX4_floorInTurn_57 : decode cX4_floorInTurn 57 = .ok (.ireturn, 1) := by decide +kernel
theorem dX4_floorInTurn_58 : decode cX4_floorInTurn 58 = .ok (.iinc 1 1, 3) := by decide +kernel
theorem dX4_floorInTurn_61 : decode cX4_floorInTurn 61 = .ok (.goto (-49), 3) := by decide +kernel
theorem dX4_floorInTurn_64 : decode cX4_floorInTurn 64 = .ok (.iconst (-1), 1) := by decide +kernel
theorem dX4_floorInTurn_65 : decode cX4_floorInTurn 65 = .ok (.ireturn, 1) := by decide +kernel
theorem dX4_isWaitedOn_0 : decode cX4_isWaitedOn 0 = .ok (.iconst 0, 1) := by decide +kernel
theorem dX4_isWaitedOn_1 : decode cX4_isWaitedOn 1 = .ok (.istore_n 2, 1) := by decide +kernel
theorem dX4_isWaitedOn_2 : decode cX4_isWaitedOn 2 = .ok (.iload_n 2, 1) := by decide +kernel
theorem dX4_isWaitedOn_3 : decode cX4_isWaitedOn 3 = .ok (.aload_n 0, 1) := by decide +kernel
theorem dX4_isWaitedOn_4 : decode cX4_isWaitedOn 4 = .ok (.getfield 32, 3) := by decide +kernel
theorem dX4_isWaitedOn_7 : decode cX4_isWaitedOn 7 = .ok (.invokevirtual 58, 3) := by decide +kernel
theorem dX4_isWaitedOn_10 : decode cX4_isWaitedOn 10 = .ok (.if_icmp .ge 40, 3) := by decide +kernel
theorem dX4_isWaitedOn_13 : decode cX4_isWaitedOn 13 = .ok (.aload_n 0, 1) := by decide +kernel
theorem dX4_isWaitedOn_14 : decode cX4_isWaitedOn 14 = .ok (.getfield 32, 3) := by decide +kernel
theorem dX4_isWaitedOn_17 : decode cX4_isWaitedOn 17 = .ok (.iload_n 2, 1) := by decide +kernel
theorem dX4_isWaitedOn_18 : decode cX4_isWaitedOn 18 = .ok (.invokevirtual 214, 3) := by decide +kernel
theorem dX4_isWaitedOn_21 : decode cX4_isWaitedOn 21 = .ok (.checkcast 123, 3) := by decide +kernel
theorem dX4_isWaitedOn_24 : decode cX4_isWaitedOn 24 = .ok (.astore_n 3, 1) := by decide +kernel
theorem dX4_isWaitedOn_25 : decode cX4_isWaitedOn 25 = .ok (.aload_n 3, 1) := by decide +kernel
theorem dX4_isWaitedOn_26 : decode cX4_isWaitedOn 26 = .ok (.getfield 140, 3) := by decide +kernel
theorem dX4_isWaitedOn_29 : decode cX4_isWaitedOn 29 = .ok (.bipush 119, 2) := by decide +kernel
theorem dX4_isWaitedOn_31 : decode cX4_isWaitedOn 31 = .ok (.if_icmp .ne 13, 3) := by decide +kernel
theorem dX4_isWaitedOn_34 : decode cX4_isWaitedOn 34 = .ok (.aload_n 3, 1) := by decide +kernel
theorem dX4_isWaitedOn_35 : decode cX4_isWaitedOn 35 = .ok (.getfield 151, 3) := by decide +kernel
theorem dX4_isWaitedOn_38 : decode cX4_isWaitedOn 38 = .ok (.iload_n 1, 1) := by decide +kernel
theorem dX4_isWaitedOn_39 : decode cX4_isWaitedOn 39 = .ok (.if_icmp .ne 5, 3) := by decide +kernel
theorem dX4_isWaitedOn_42 : decode cX4_isWaitedOn 42 = .ok (.iconst 1, 1) := by decide +kernel
theorem dX4_isWaitedOn_43 : decode cX4_isWaitedOn 43 = .ok (.ireturn, 1) := by decide +kernel
theorem dX4_isWaitedOn_44 : decode cX4_isWaitedOn 44 = .ok (.iinc 2 1, 3) := by decide +kernel
theorem dX4_isWaitedOn_47 : decode cX4_isWaitedOn 47 = .ok (.goto (-45), 3) := by decide +kernel
theorem dX4_isWaitedOn_50 : decode cX4_isWaitedOn 50 = .ok (.iconst 0, 1) := by decide +kernel
theorem dX4_isWaitedOn_51 : decode cX4_isWaitedOn 51 = .ok (.ireturn, 1) := by decide +kernel
end
section
theorem dX5_thrown_0 : decode cX5_thrown 0 = .ok (.aload_n 0, 1) := by decide +kernel
theorem dX5_thrown_1 : decode cX5_thrown 1 = .ok (.getfield 1, 3) := by decide +kernel
theorem dX5_thrown_4 : decode cX5_thrown 4 = .ok (.ireturn, 1) := by decide +kernel
theorem dX5_fails_0 : decode cX5_fails 0 = .ok (.aload_n 0, 1) := by decide +kernel
theorem dX5_fails_1 : decode cX5_fails 1 = .ok (.iload_n 1, 1) := by decide +kernel
theorem dX5_fails_2 : decode cX5_fails 2 = .ok (.putfield 1, 3) := by decide +kernel
theorem dX5_fails_5 : decode cX5_fails 5 = .ok (.iconst 0, 1) := by decide +kernel
theorem dX5_fails_6 : decode cX5_fails 6 = .ok (.ireturn, 1) := by decide +kernel
theorem dX5_isWrong_0 : decode cX5_isWrong 0 = .ok (.aload_n 0, 1) := by decide +kernel
theorem dX5_isWrong_1 : decode cX5_isWrong 1 = .ok (.iload_n 1, 1) := by decide +kernel
theorem dX5_isWrong_2 : decode cX5_isWrong 2 = .ok (.putfield 1, 3) := by decide +kernel
theorem dX5_isWrong_5 : decode cX5_isWrong 5 = .ok (.iconst 0, 1) := by decide +kernel
theorem dX5_isWrong_6 : decode cX5_isWrong 6 = .ok (.ireturn, 1) := by decide +kernel
theorem dX5_isBetween_0 : decode cX5_isBetween 0 = .ok (.iload_n 1, 1) := by decide +kernel
theorem dX5_isBetween_1 : decode cX5_isBetween 1 = .ok (.iload_n 0, 1) := by decide +kernel
theorem dX5_isBetween_2 : decode cX5_isBetween 2 = .ok (.if_icmp .gt 12, 3) := by decide +kernel
theorem dX5_isBetween_5 : decode cX5_isBetween 5 = .ok (.iload_n 0, 1) := by decide +kernel
theorem dX5_isBetween_6 : decode cX5_isBetween 6 = .ok (.iload_n 2, 1) := by decide +kernel
theorem dX5_isBetween_7 : decode cX5_isBetween 7 = .ok (.if_icmp .gt 7, 3) := by decide +kernel
theorem dX5_isBetween_10 : decode cX5_isBetween 10 = .ok (.iconst 1, 1) := by decide +kernel
theorem dX5_isBetween_11 : decode cX5_isBetween 11 = .ok (.goto 4, 3) := by decide +kernel
theorem dX5_isBetween_14 : decode cX5_isBetween 14 = .ok (.iconst 0, 1) := by decide +kernel
theorem dX5_isBetween_15 : decode cX5_isBetween 15 = .ok (.ireturn, 1) := by decide +kernel
theorem dX5_isFloor_0 : decode cX5_isFloor 0 = .ok (.iload_n 0, 1) := by decide +kernel
theorem dX5_isFloor_1 : decode cX5_isFloor 1 = .ok (.iconst 0, 1) := by decide +kernel
theorem dX5_isFloor_2 : decode cX5_isFloor 2 = .ok (.bipush 9, 2) := by decide +kernel
theorem dX5_isFloor_4 : decode cX5_isFloor 4 = .ok (.invokestatic 7, 3) := by decide +kernel
theorem dX5_isFloor_7 : decode cX5_isFloor 7 = .ok (.ireturn, 1) := by decide +kernel
theorem dX5_init_0 : decode cX5_init 0 = .ok (.aload_n 0, 1) := by decide +kernel
theorem dX5_init_1 : decode cX5_init 1 = .ok (.invokespecial 11, 3) := by decide +kernel
theorem dX5_init_4 : decode cX5_init 4 = .ok (.aload_n 0, 1) := by decide +kernel
theorem dX5_init_5 : decode cX5_init 5 = .ok (.bipush 10, 2) := by decide +kernel
theorem dX5_init_7 : decode cX5_init 7 = .ok (.newarray .int, 2) := by decide +kernel
theorem dX5_init_9 : decode cX5_init 9 = .ok (.putfield 17, 3) := by decide +kernel
theorem dX5_init_12 : decode cX5_init 12 = .ok (.aload_n 0, 1) := by decide +kernel
theorem dX5_init_13 : decode cX5_init 13 = .ok (.bipush 10, 2) := by decide +kernel
theorem dX5_init_15 : decode cX5_init 15 = .ok (.newarray .int, 2) := by decide +kernel
theorem dX5_init_17 : decode cX5_init 17 = .ok (.putfield 21, 3) := by decide +kernel
theorem dX5_init_20 : decode cX5_init 20 = .ok (.aload_n 0, 1) := by decide +kernel
theorem dX5_init_21 : decode cX5_init 21 = .ok (.bipush 10, 2) := by decide +kernel
theorem dX5_init_23 : decode cX5_init 23 = .ok (.newarray .int, 2) := by decide +kernel
theorem dX5_init_25 : decode cX5_init 25 = .ok (.putfield 24, 3) := by decide +kernel
theorem dX5_init_28 : decode cX5_init 28 = .ok (.aload_n 0, 1) := by decide +kernel
theorem dX5_init_29 : decode cX5_init 29 = .ok (.bipush 8, 2) := by decide +kernel
theorem dX5_init_31 : decode cX5_init 31 = .ok (.newarray .int, 2) := by decide +kernel
theorem dX5_init_33 : decode cX5_init 33 = .ok (.putfield 27, 3) := by decide +kernel
theorem dX5_init_36 : decode cX5_init 36 = .ok (.aload_n 0, 1) := by decide +kernel
theorem dX5_init_37 : decode cX5_init 37 = .ok (.bipush 8, 2) := by decide +kernel
theorem dX5_init_39 : decode cX5_init 39 = .ok (.newarray .boolean, 2) := by decide +kernel
theorem dX5_init_41 : decode cX5_init 41 = .ok (.putfield 30, 3) := by decide +kernel
theorem dX5_init_44 : decode cX5_init 44 = .ok (.aload_n 0, 1) := by decide +kernel
theorem dX5_init_45 : decode cX5_init 45 = .ok (.bipush 30, 2) := by decide +kernel
theorem dX5_init_47 : decode cX5_init 47 = .ok (.newarray .int, 2) := by decide +kernel
theorem dX5_init_49 : decode cX5_init 49 = .ok (.putfield 34, 3) := by decide +kernel
theorem dX5_init_52 : decode cX5_init 52 = .ok (.aload_n 0, 1) := by decide +kernel
theorem dX5_init_53 : decode cX5_init 53 = .ok (.bipush 30, 2) := by decide +kernel
theorem dX5_init_55 : decode cX5_init 55 = .ok (.newarray .int, 2) := by decide +kernel
theorem dX5_init_57 : decode cX5_init 57 = .ok (.putfield 37, 3) := by decide +kernel
theorem dX5_init_60 : decode cX5_init 60 = .ok (.aload_n 0, 1) := by decide +kernel
theorem dX5_init_61 : decode cX5_init 61 = .ok (.bipush 30, 2) := by decide +kernel
theorem dX5_init_63 : decode cX5_init 63 = .ok (.newarray .int, 2) := by decide +kernel
theorem dX5_init_65 : decode cX5_init 65 = .ok (.putfield 40, 3) := by decide +kernel
theorem dX5_init_68 : decode cX5_init 68 = .ok (.aload_n 0, 1) := by decide +kernel
theorem dX5_init_69 : decode cX5_init 69 = .ok (.bipush 30, 2) := by decide +kernel
theorem dX5_init_71 : decode cX5_init 71 = .ok (.newarray .int, 2) := by decide +kernel
theorem dX5_init_73 : decode cX5_init 73 = .ok (.putfield 43, 3) := by decide +kernel
theorem dX5_init_76 : decode cX5_init 76 = .ok (.aload_n 0, 1) := by decide +kernel
theorem dX5_init_77 : decode cX5_init 77 = .ok (.bipush 30, 2) := by decide +kernel
theorem dX5_init_79 : decode cX5_init 79 = .ok (.newarray .int, 2) := by decide +kernel
theorem dX5_init_81 : decode cX5_init 81 = .ok (.putfield 46, 3) := by decide +kernel
theorem dX5_init_84 : decode cX5_init 84 = .ok (.aload_n 0, 1) := by decide +kernel
theorem dX5_init_85 : decode cX5_init 85 = .ok (.bipush 30, 2) := by decide +kernel
theorem dX5_init_87 : decode cX5_init 87 = .ok (.newarray .int, 2) := by decide +kernel
theorem dX5_init_89 : decode cX5_init 89 = .ok (.putfield 49, 3) := by decide +kernel
theorem dX5_init_92 : decode cX5_init 92 = .ok (.aload_n 0, 1) := by decide +kernel
theorem dX5_init_93 : decode cX5_init 93 = .ok (.bipush 30, 2) := by decide +kernel
theorem dX5_init_95 : decode cX5_init 95 = .ok (.newarray .char, 2) := by decide +kernel
theorem dX5_init_97 : decode cX5_init 97 = .ok (.putfield 52, 3) := by decide +kernel
theorem dX5_init_100 : decode cX5_init 100 = .ok (.aload_n 0, 1) := by decide +kernel
theorem dX5_init_101 : decode cX5_init 101 = .ok (.iconst 3, 1) := by decide +kernel
theorem dX5_init_102 : decode cX5_init 102 = .ok (.newarray .int, 2) := by decide +kernel
theorem dX5_init_104 : decode cX5_init 104 = .ok (.putfield 56, 3) := by decide +kernel
theorem dX5_init_107 : decode cX5_init 107 = .ok (.aload_n 0, 1) := by decide +kernel
theorem dX5_init_108 : decode cX5_init 108 = .ok (.iconst 3, 1) := by decide +kernel
theorem dX5_init_109 : decode cX5_init 109 = .ok (.newarray .int, 2) := by decide +kernel
theorem dX5_init_111 : decode cX5_init 111 = .ok (.putfield 59, 3) := by decide +kernel
theorem dX5_init_114 : decode cX5_init 114 = .ok (.aload_n 0, 1) := by decide +kernel
theorem dX5_init_115 : decode cX5_init 115 = .ok (.iconst 3, 1) := by decide +kernel
theorem dX5_init_116 : decode cX5_init 116 = .ok (.newarray .int, 2) := by decide +kernel
theorem dX5_init_118 : decode cX5_init 118 = .ok (.putfield 62, 3) := by decide +kernel
theorem dX5_init_121 : decode cX5_init 121 = .ok (.aload_n 0, 1) := by decide +kernel
theorem dX5_init_122 : decode cX5_init 122 = .ok (.iconst 3, 1) := by decide +kernel
theorem dX5_init_123 : decode cX5_init 123 = .ok (.newarray .char, 2) := by decide +kernel
theorem dX5_init_125 : decode cX5_init 125 = .ok (.putfield 65, 3) := by decide +kernel
theorem dX5_init_128 : decode cX5_init 128 = .ok (.aload_n 0, 1) := by decide +kernel
theorem dX5_init_129 : decode cX5_init 129 = .ok (.iconst 3, 1) := by decide +kernel
theorem dX5_init_130 : decode cX5_init 130 = .ok (.newarray .boolean, 2) := by decide +kernel
theorem dX5_init_132 : decode cX5_init 132 = .ok (.putfield 68, 3) := by decide +kernel
theorem dX5_init_135 : decode cX5_init 135 = .ok (.iconst 0, 1) := by decide +kernel
theorem dX5_init_136 : decode cX5_init 136 = .ok (.istore_n 1, 1) := by decide +kernel
theorem dX5_init_137 : decode cX5_init 137 = .ok (.iload_n 1, 1) := by decide +kernel
theorem dX5_init_138 : decode cX5_init 138 = .ok (.bipush 10, 2) := by decide +kernel
theorem dX5_init_140 : decode cX5_init 140 = .ok (.if_icmp .ge 24, 3) := by decide +kernel
theorem dX5_init_143 : decode cX5_init 143 = .ok (.aload_n 0, 1) := by decide +kernel
theorem dX5_init_144 : decode cX5_init 144 = .ok (.getfield 17, 3) := by decide +kernel
theorem dX5_init_147 : decode cX5_init 147 = .ok (.iload_n 1, 1) := by decide +kernel
theorem dX5_init_148 : decode cX5_init 148 = .ok (.iconst (-1), 1) := by decide +kernel
theorem dX5_init_149 : decode cX5_init 149 = .ok (.iastore, 1) := by decide +kernel
theorem dX5_init_150 : decode cX5_init 150 = .ok (.aload_n 0, 1) := by decide +kernel
theorem dX5_init_151 : decode cX5_init 151 = .ok (.getfield 24, 3) := by decide +kernel
theorem dX5_init_154 : decode cX5_init 154 = .ok (.iload_n 1, 1) := by decide +kernel
theorem dX5_init_155 : decode cX5_init 155 = .ok (.bipush 100, 2) := by decide +kernel
theorem dX5_init_157 : decode cX5_init 157 = .ok (.iastore, 1) := by decide +kernel
theorem dX5_init_158 : decode cX5_init 158 = .ok (.iinc 1 1, 3) := by decide +kernel
theorem dX5_init_161 : decode cX5_init 161 = .ok (.goto (-24), 3) := by decide +kernel
theorem dX5_init_164 : decode cX5_init 164 = .ok (.return_, 1) := by decide +kernel
theorem dX5_isBadge_0 : decode cX5_isBadge 0 = .ok (.iload_n 1, 1) := by decide +kernel
theorem dX5_isBadge_1 : decode cX5_isBadge 1 = .ok (.iconst 0, 1) := by decide +kernel
theorem dX5_isBadge_2 : decode cX5_isBadge 2 = .ok (.aload_n 0, 1) := by decide +kernel
theorem dX5_isBadge_3 : decode cX5_isBadge 3 = .ok (.getfield 71, 3) := by decide +kernel
theorem dX5_isBadge_6 : decode cX5_isBadge 6 = .ok (.iconst 1, 1) := by decide +kernel
theorem dX5_isBadge_7 : decode cX5_isBadge 7 = .ok (.isub, 1) := by decide +kernel
theorem dX5_isBadge_8 : decode cX5_isBadge 8 = .ok (.invokestatic 7, 3) := by decide +kernel
theorem dX5_isBadge_11 : decode cX5_isBadge 11 = .ok (.ireturn, 1) := by decide +kernel
theorem dX5_isRider_0 : decode cX5_isRider 0 = .ok (.iload_n 1, 1) := by decide +kernel
theorem dX5_isRider_1 : decode cX5_isRider 1 = .ok (.iconst 0, 1) := by decide +kernel
theorem dX5_isRider_2 : decode cX5_isRider 2 = .ok (.aload_n 0, 1) := by decide +kernel
theorem dX5_isRider_3 : decode cX5_isRider 3 = .ok (.getfield 74, 3) := by decide +kernel
theorem dX5_isRider_6 : decode cX5_isRider 6 = .ok (.iconst 1, 1) := by decide +kernel
theorem dX5_isRider_7 : decode cX5_isRider 7 = .ok (.isub, 1) := by decide +kernel
theorem dX5_isRider_8 : decode cX5_isRider 8 = .ok (.invokestatic 7, 3) := by decide +kernel
theorem dX5_isRider_11 : decode cX5_isRider 11 = .ok (.ireturn, 1) := by decide +kernel
theorem dX5_isLift_0 : decode cX5_isLift 0 = .ok (.iload_n 1, 1) := by decide +kernel
theorem dX5_isLift_1 : decode cX5_isLift 1 = .ok (.iconst 0, 1) := by decide +kernel
theorem dX5_isLift_2 : decode cX5_isLift 2 = .ok (.aload_n 0, 1) := by decide +kernel
theorem dX5_isLift_3 : decode cX5_isLift 3 = .ok (.getfield 77, 3) := by decide +kernel
theorem dX5_isLift_6 : decode cX5_isLift 6 = .ok (.iconst 1, 1) := by decide +kernel
theorem dX5_isLift_7 : decode cX5_isLift 7 = .ok (.isub, 1) := by decide +kernel
theorem dX5_isLift_8 : decode cX5_isLift 8 = .ok (.invokestatic 7, 3) := by decide +kernel
theorem dX5_isLift_11 : decode cX5_isLift 11 = .ok (.ireturn, 1) := by decide +kernel
theorem dX5_addLift_0 : decode cX5_addLift 0 = .ok (.aload_n 0, 1) := by decide +kernel
theorem dX5_addLift_1 : decode cX5_addLift 1 = .ok (.iconst 0, 1) := by decide +kernel
theorem dX5_addLift_2 : decode cX5_addLift 2 = .ok (.putfield 1, 3) := by decide +kernel
theorem dX5_addLift_5 : decode cX5_addLift 5 = .ok (.iload_n 1, 1) := by decide +kernel
theorem dX5_addLift_6 : decode cX5_addLift 6 = .ok (.iconst 1, 1) := by decide +kernel
theorem dX5_addLift_7 : decode cX5_addLift 7 = .ok (.iconst 4, 1) := by decide +kernel
theorem dX5_addLift_8 : decode cX5_addLift 8 = .ok (.invokestatic 7, 3) := by decide +kernel
theorem dX5_addLift_11 : decode cX5_addLift 11 = .ok (.ifCond .ne 9, 3) := by decide +kernel
theorem dX5_addLift_14 : decode cX5_addLift 14 = .ok (.aload_n 0, 1) := by decide +kernel
theorem dX5_addLift_15 : decode cX5_addLift 15 = .ok (.iconst 1, 1) := by decide +kernel
theorem dX5_addLift_16 : decode cX5_addLift 16 = .ok (.invokevirtual 80, 3) := by decide +kernel
theorem dX5_addLift_19 : decode cX5_addLift 19 = .ok (.ireturn, 1) := by decide +kernel
theorem dX5_addLift_20 : decode cX5_addLift 20 = .ok (.aload_n 0, 1) := by decide +kernel
theorem dX5_addLift_21 : decode cX5_addLift 21 = .ok (.getfield 77, 3) := by decide +kernel
theorem dX5_addLift_24 : decode cX5_addLift 24 = .ok (.iconst 3, 1) := by decide +kernel
theorem dX5_addLift_25 : decode cX5_addLift 25 = .ok (.if_icmp .ne 9, 3) := by decide +kernel
theorem dX5_addLift_28 : decode cX5_addLift 28 = .ok (.aload_n 0, 1) := by decide +kernel
theorem dX5_addLift_29 : decode cX5_addLift 29 = .ok (.iconst 2, 1) := by decide +kernel
theorem dX5_addLift_30 : decode cX5_addLift 30 = .ok (.invokevirtual 80, 3) := by decide +kernel
theorem dX5_addLift_33 : decode cX5_addLift 33 = .ok (.ireturn, 1) := by decide +kernel
theorem dX5_addLift_34 : decode cX5_addLift 34 = .ok (.aload_n 0, 1) := by decide +kernel
theorem dX5_addLift_35 : decode cX5_addLift 35 = .ok (.getfield 56, 3) := by decide +kernel
theorem dX5_addLift_38 : decode cX5_addLift 38 = .ok (.aload_n 0, 1) := by decide +kernel
theorem dX5_addLift_39 : decode cX5_addLift 39 = .ok (.getfield 77, 3) := by decide +kernel
theorem dX5_addLift_42 : decode cX5_addLift 42 = .ok (.iload_n 1, 1) := by decide +kernel
theorem dX5_addLift_43 : decode cX5_addLift 43 = .ok (.iastore, 1) := by decide +kernel
theorem dX5_addLift_44 : decode cX5_addLift 44 = .ok (.aload_n 0, 1) := by decide +kernel
theorem dX5_addLift_45 : decode cX5_addLift 45 = .ok (.getfield 65, 3) := by decide +kernel
theorem dX5_addLift_48 : decode cX5_addLift 48 = .ok (.aload_n 0, 1) := by decide +kernel
theorem dX5_addLift_49 : decode cX5_addLift 49 = .ok (.getfield 77, 3) := by decide +kernel
theorem dX5_addLift_52 : decode cX5_addLift 52 = .ok (.bipush 115, 2) := by decide +kernel
theorem dX5_addLift_54 : decode cX5_addLift 54 = .ok (.castore, 1) := by decide +kernel
theorem dX5_addLift_55 : decode cX5_addLift 55 = .ok (.aload_n 0, 1) := by decide +kernel
theorem dX5_addLift_56 : decode cX5_addLift 56 = .ok (.getfield 68, 3) := by decide +kernel
theorem dX5_addLift_59 : decode cX5_addLift 59 = .ok (.aload_n 0, 1) := by decide +kernel
theorem dX5_addLift_60 : decode cX5_addLift 60 = .ok (.getfield 77, 3) := by decide +kernel
theorem dX5_addLift_63 : decode cX5_addLift 63 = .ok (.iconst 1, 1) := by decide +kernel
theorem dX5_addLift_64 : decode cX5_addLift 64 = .ok (.bastore, 1) := by decide +kernel
theorem dX5_addLift_65 : decode cX5_addLift 65 = .ok (.aload_n 0, 1) := by decide +kernel
theorem dX5_addLift_66 : decode cX5_addLift 66 = .ok (.dup, 1) := by decide +kernel
theorem dX5_addLift_67 : decode cX5_addLift 67 = .ok (.getfield 77, 3) := by decide +kernel
theorem dX5_addLift_70 : decode cX5_addLift 70 = .ok (.iconst 1, 1) := by decide +kernel
theorem dX5_addLift_71 : decode cX5_addLift 71 = .ok (.iadd, 1) := by decide +kernel
theorem dX5_addLift_72 : decode cX5_addLift 72 = .ok (.putfield 77, 3) := by decide +kernel
theorem dX5_addLift_75 : decode cX5_addLift 75 = .ok (.aload_n 0, 1) := by decide +kernel
theorem dX5_addLift_76 : decode cX5_addLift 76 = .ok (.getfield 77, 3) := by decide +kernel
theorem dX5_addLift_79 : decode cX5_addLift 79 = .ok (.iconst 1, 1) := by decide +kernel
theorem dX5_addLift_80 : decode cX5_addLift 80 = .ok (.isub, 1) := by decide +kernel
theorem dX5_addLift_81 : decode cX5_addLift 81 = .ok (.ireturn, 1) := by decide +kernel
theorem dX5_setTenant_0 : decode cX5_setTenant 0 = .ok (.aload_n 0, 1) := by decide +kernel
theorem dX5_setTenant_1 : decode cX5_setTenant 1 = .ok (.iconst 0, 1) := by decide +kernel
theorem dX5_setTenant_2 : decode cX5_setTenant 2 = .ok (.putfield 1, 3) := by decide +kernel
theorem dX5_setTenant_5 : decode cX5_setTenant 5 = .ok (.iload_n 1, 1) := by decide +kernel
theorem dX5_setTenant_6 : decode cX5_setTenant 6 = .ok (.iconst 1, 1) := by decide +kernel
theorem dX5_setTenant_7 : decode cX5_setTenant 7 = .ok (.bipush 9, 2) := by decide +kernel
theorem dX5_setTenant_9 : decode cX5_setTenant 9 = .ok (.invokestatic 7, 3) := by decide +kernel
theorem dX5_setTenant_12 : decode cX5_setTenant 12 = .ok (.ifCond .ne 9, 3) := by decide +kernel
theorem dX5_setTenant_15 : decode cX5_setTenant 15 = .ok (.aload_n 0, 1) := by decide +kernel
theorem dX5_setTenant_16 : decode cX5_setTenant 16 = .ok (.iconst 1, 1) := by decide +kernel
theorem dX5_setTenant_17 : decode cX5_setTenant 17 = .ok (.invokevirtual 80, 3) := by decide +kernel
theorem dX5_setTenant_20 : decode cX5_setTenant 20 = .ok (.ireturn, 1) := by decide +kernel
theorem dX5_setTenant_21 : decode cX5_setTenant 21 = .ok (.iload_n 2, 1) := by decide +kernel
theorem dX5_setTenant_22 : decode cX5_setTenant 22 = .ok (.iconst (-1), 1) := by decide +kernel
theorem dX5_setTenant_23 : decode cX5_setTenant 23 = .ok (.iconst 3, 1) := by decide +kernel
theorem dX5_setTenant_24 : decode cX5_setTenant 24 = .ok (.invokestatic 7, 3) := by decide +kernel
theorem dX5_setTenant_27 : decode cX5_setTenant 27 = .ok (.ifCond .ne 9, 3) := by decide +kernel
theorem dX5_setTenant_30 : decode cX5_setTenant 30 = .ok (.aload_n 0, 1) := by decide +kernel
theorem dX5_setTenant_31 : decode cX5_setTenant 31 = .ok (.iconst 2, 1) := by decide +kernel
theorem dX5_setTenant_32 : decode cX5_setTenant 32 = .ok (.invokevirtual 80, 3) := by decide +kernel
theorem dX5_setTenant_35 : decode cX5_setTenant 35 = .ok (.ireturn, 1) := by decide +kernel
theorem dX5_setTenant_36 : decode cX5_setTenant 36 = .ok (.aload_n 0, 1) := by decide +kernel
theorem dX5_setTenant_37 : decode cX5_setTenant 37 = .ok (.getfield 17, 3) := by decide +kernel
theorem dX5_setTenant_40 : decode cX5_setTenant 40 = .ok (.iload_n 1, 1) := by decide +kernel
theorem dX5_setTenant_41 : decode cX5_setTenant 41 = .ok (.iaload, 1) := by decide +kernel
theorem dX5_setTenant_42 : decode cX5_setTenant 42 = .ok (.istore_n 3, 1) := by decide +kernel
theorem dX5_setTenant_43 : decode cX5_setTenant 43 = .ok (.aload_n 0, 1) := by decide +kernel
theorem dX5_setTenant_44 : decode cX5_setTenant 44 = .ok (.getfield 17, 3) := by decide +kernel
theorem dX5_setTenant_47 : decode cX5_setTenant 47 = .ok (.iload_n 1, 1) := by decide +kernel
theorem dX5_setTenant_48 : decode cX5_setTenant 48 = .ok (.iload_n 2, 1) := by decide +kernel
theorem dX5_setTenant_49 : decode cX5_setTenant 49 = .ok (.iastore, 1) := by decide +kernel
theorem dX5_setTenant_50 : decode cX5_setTenant 50 = .ok (.iload_n 3, 1) := by decide +kernel
theorem dX5_setTenant_51 : decode cX5_setTenant 51 = .ok (.ireturn, 1) := by decide +kernel
theorem dX5_setHours_0 : decode cX5_setHours 0 = .ok (.aload_n 0, 1) := by decide +kernel
theorem dX5_setHours_1 : decode cX5_setHours 1 = .ok (.iconst 0, 1) := by decide +kernel
theorem dX5_setHours_2 : decode cX5_setHours 2 = .ok (.putfield 1, 3) := by decide +kernel
theorem dX5_setHours_5 : decode cX5_setHours 5 = .ok (.iload_n 1, 1) := by decide +kernel
theorem dX5_setHours_6 : decode cX5_setHours 6 = .ok (.iconst 1, 1) := by decide +kernel
theorem dX5_setHours_7 : decode cX5_setHours 7 = .ok (.bipush 9, 2) := by decide +kernel
theorem dX5_setHours_9 : decode cX5_setHours 9 = .ok (.invokestatic 7, 3) := by decide +kernel
theorem dX5_setHours_12 : decode cX5_setHours 12 = .ok (.ifCond .ne 9, 3) := by decide +kernel
theorem dX5_setHours_15 : decode cX5_setHours 15 = .ok (.aload_n 0, 1) := by decide +kernel
theorem dX5_setHours_16 : decode cX5_setHours 16 = .ok (.iconst 1, 1) := by decide +kernel
theorem dX5_setHours_17 : decode cX5_setHours 17 = .ok (.invokevirtual 80, 3) := by decide +kernel
theorem dX5_setHours_20 : decode cX5_setHours 20 = .ok (.ireturn, 1) := by decide +kernel
theorem dX5_setHours_21 : decode cX5_setHours 21 = .ok (.iload_n 2, 1) := by decide +kernel
theorem dX5_setHours_22 : decode cX5_setHours 22 = .ok (.iconst 0, 1) := by decide +kernel
theorem dX5_setHours_23 : decode cX5_setHours 23 = .ok (.bipush 99, 2) := by decide +kernel
theorem dX5_setHours_25 : decode cX5_setHours 25 = .ok (.invokestatic 7, 3) := by decide +kernel
theorem dX5_setHours_28 : decode cX5_setHours 28 = .ok (.ifCond .eq 15, 3) := by decide +kernel
theorem dX5_setHours_31 : decode cX5_setHours 31 = .ok (.iload_n 3, 1) := by decide +kernel
theorem dX5_setHours_32 : decode cX5_setHours 32 = .ok (.iload_n 2, 1) := by decide +kernel
theorem dX5_setHours_33 : decode cX5_setHours 33 = .ok (.iconst 1, 1) := by decide +kernel
theorem dX5_setHours_34 : decode cX5_setHours 34 = .ok (.iadd, 1) := by decide +kernel
theorem dX5_setHours_35 : decode cX5_setHours 35 = .ok (.bipush 100, 2) := by decide +kernel
theorem dX5_setHours_37 : decode cX5_setHours 37 = .ok (.invokestatic 7, 3) := by decide +kernel
theorem dX5_setHours_40 : decode cX5_setHours 40 = .ok (.ifCond .ne 9, 3) := by decide +kernel
theorem dX5_setHours_43 : decode cX5_setHours 43 = .ok (.aload_n 0, 1) := by decide +kernel
theorem dX5_setHours_44 : decode cX5_setHours 44 = .ok (.iconst 2, 1) := by decide +kernel
theorem dX5_setHours_45 : decode cX5_setHours 45 = .ok (.invokevirtual 80, 3) := by decide +kernel
theorem dX5_setHours_48 : decode cX5_setHours 48 = .ok (.ireturn, 1) := by decide +kernel
theorem dX5_setHours_49 : decode cX5_setHours 49 = .ok (.aload_n 0, 1) := by decide +kernel
theorem dX5_setHours_50 : decode cX5_setHours 50 = .ok (.getfield 21, 3) := by decide +kernel
theorem dX5_setHours_53 : decode cX5_setHours 53 = .ok (.iload_n 1, 1) := by decide +kernel
theorem dX5_setHours_54 : decode cX5_setHours 54 = .ok (.iload_n 2, 1) := by decide +kernel
theorem dX5_setHours_55 : decode cX5_setHours 55 = .ok (.iastore, 1) := by decide +kernel
theorem dX5_setHours_56 : decode cX5_setHours 56 = .ok (.aload_n 0, 1) := by decide +kernel
theorem dX5_setHours_57 : decode cX5_setHours 57 = .ok (.getfield 24, 3) := by decide +kernel
theorem dX5_setHours_60 : decode cX5_setHours 60 = .ok (.iload_n 1, 1) := by decide +kernel
theorem dX5_setHours_61 : decode cX5_setHours 61 = .ok (.iload_n 3, 1) := by decide +kernel
theorem dX5_setHours_62 : decode cX5_setHours 62 = .ok (.iastore, 1) := by decide +kernel
theorem dX5_setHours_63 : decode cX5_setHours 63 = .ok (.iload_n 3, 1) := by decide +kernel
theorem dX5_setHours_64 : decode cX5_setHours 64 = .ok (.iload_n 2, 1) := by decide +kernel
theorem dX5_setHours_65 : decode cX5_setHours 65 = .ok (.isub, 1) := by decide +kernel
theorem dX5_setHours_66 : decode cX5_setHours 66 = .ok (.ireturn, 1) := by decide +kernel
theorem dX5_addBadge_0 : decode cX5_addBadge 0 = .ok (.aload_n 0, 1) := by decide +kernel
theorem dX5_addBadge_1 : decode cX5_addBadge 1 = .ok (.iconst 0, 1) := by decide +kernel
theorem dX5_addBadge_2 : decode cX5_addBadge 2 = .ok (.putfield 1, 3) := by decide +kernel
theorem dX5_addBadge_5 : decode cX5_addBadge 5 = .ok (.iload_n 1, 1) := by decide +kernel
theorem dX5_addBadge_6 : decode cX5_addBadge 6 = .ok (.iconst 0, 1) := by decide +kernel
theorem dX5_addBadge_7 : decode cX5_addBadge 7 = .ok (.iconst 3, 1) := by decide +kernel
theorem dX5_addBadge_8 : decode cX5_addBadge 8 = .ok (.invokestatic 7, 3) := by decide +kernel
theorem dX5_addBadge_11 : decode cX5_addBadge 11 = .ok (.ifCond .ne 9, 3) := by decide +kernel
theorem dX5_addBadge_14 : decode cX5_addBadge 14 = .ok (.aload_n 0, 1) := by decide +kernel
theorem dX5_addBadge_15 : decode cX5_addBadge 15 = .ok (.iconst 1, 1) := by decide +kernel
theorem dX5_addBadge_16 : decode cX5_addBadge 16 = .ok (.invokevirtual 80, 3) := by decide +kernel
theorem dX5_addBadge_19 : decode cX5_addBadge 19 = .ok (.ireturn, 1) := by decide +kernel
theorem dX5_addBadge_20 : decode cX5_addBadge 20 = .ok (.aload_n 0, 1) := by decide +kernel
theorem dX5_addBadge_21 : decode cX5_addBadge 21 = .ok (.getfield 71, 3) := by decide +kernel
theorem dX5_addBadge_24 : decode cX5_addBadge 24 = .ok (.bipush 8, 2) := by decide +kernel
theorem dX5_addBadge_26 : decode cX5_addBadge 26 = .ok (.if_icmp .ne 9, 3) := by decide +kernel
theorem dX5_addBadge_29 : decode cX5_addBadge 29 = .ok (.aload_n 0, 1) := by decide +kernel
theorem dX5_addBadge_30 : decode cX5_addBadge 30 = .ok (.iconst 2, 1) := by decide +kernel
theorem dX5_addBadge_31 : decode cX5_addBadge 31 = .ok (.invokevirtual 80, 3) := by decide +kernel
theorem dX5_addBadge_34 : decode cX5_addBadge 34 = .ok (.ireturn, 1) := by decide +kernel
theorem dX5_addBadge_35 : decode cX5_addBadge 35 = .ok (.aload_n 0, 1) := by decide +kernel
theorem dX5_addBadge_36 : decode cX5_addBadge 36 = .ok (.getfield 27, 3) := by decide +kernel
theorem dX5_addBadge_39 : decode cX5_addBadge 39 = .ok (.aload_n 0, 1) := by decide +kernel
theorem dX5_addBadge_40 : decode cX5_addBadge 40 = .ok (.getfield 71, 3) := by decide +kernel
theorem dX5_addBadge_43 : decode cX5_addBadge 43 = .ok (.iload_n 1, 1) := by decide +kernel
theorem dX5_addBadge_44 : decode cX5_addBadge 44 = .ok (.iastore, 1) := by decide +kernel
theorem dX5_addBadge_45 : decode cX5_addBadge 45 = .ok (.aload_n 0, 1) := by decide +kernel
theorem dX5_addBadge_46 : decode cX5_addBadge 46 = .ok (.dup, 1) := by decide +kernel
theorem dX5_addBadge_47 : decode cX5_addBadge 47 = .ok (.getfield 71, 3) := by decide +kernel
theorem dX5_addBadge_50 : decode cX5_addBadge 50 = .ok (.iconst 1, 1) := by decide +kernel
theorem dX5_addBadge_51 : decode cX5_addBadge 51 = .ok (.iadd, 1) := by decide +kernel
theorem dX5_addBadge_52 : decode cX5_addBadge 52 = .ok (.putfield 71, 3) := by decide +kernel
theorem dX5_addBadge_55 : decode cX5_addBadge 55 = .ok (.aload_n 0, 1) := by decide +kernel
theorem dX5_addBadge_56 : decode cX5_addBadge 56 = .ok (.getfield 71, 3) := by decide +kernel
theorem dX5_addBadge_59 : decode cX5_addBadge 59 = .ok (.iconst 1, 1) := by decide +kernel
theorem dX5_addBadge_60 : decode cX5_addBadge 60 = .ok (.isub, 1) := by decide +kernel
theorem dX5_addBadge_61 : decode cX5_addBadge 61 = .ok (.ireturn, 1) := by decide +kernel
theorem dX5_setRevoked_0 : decode cX5_setRevoked 0 = .ok (.aload_n 0, 1) := by decide +kernel
theorem dX5_setRevoked_1 : decode cX5_setRevoked 1 = .ok (.iconst 0, 1) := by decide +kernel
theorem dX5_setRevoked_2 : decode cX5_setRevoked 2 = .ok (.putfield 1, 3) := by decide +kernel
theorem dX5_setRevoked_5 : decode cX5_setRevoked 5 = .ok (.aload_n 0, 1) := by decide +kernel
theorem dX5_setRevoked_6 : decode cX5_setRevoked 6 = .ok (.iload_n 1, 1) := by decide +kernel
theorem dX5_setRevoked_7 : decode cX5_setRevoked 7 = .ok (.invokevirtual 84, 3) := by decide +kernel
theorem dX5_setRevoked_10 : decode cX5_setRevoked 10 = .ok (.ifCond .ne 9, 3) := by decide +kernel
theorem dX5_setRevoked_13 : decode cX5_setRevoked 13 = .ok (.aload_n 0, 1) := by decide +kernel
theorem dX5_setRevoked_14 : decode cX5_setRevoked 14 = .ok (.iconst 1, 1) := by decide +kernel
theorem dX5_setRevoked_15 : decode cX5_setRevoked 15 = .ok (.invokevirtual 88, 3) := by decide +kernel
theorem dX5_setRevoked_18 : decode cX5_setRevoked 18 = .ok (.ireturn, 1) := by decide +kernel
theorem dX5_setRevoked_19 : decode cX5_setRevoked 19 = .ok (.aload_n 0, 1) := by decide +kernel
theorem dX5_setRevoked_20 : decode cX5_setRevoked 20 = .ok (.getfield 30, 3) := by decide +kernel
theorem dX5_setRevoked_23 : decode cX5_setRevoked 23 = .ok (.iload_n 1, 1) := by decide +kernel
theorem dX5_setRevoked_24 : decode cX5_setRevoked 24 = .ok (.baload, 1) := by decide +kernel
theorem dX5_setRevoked_25 : decode cX5_setRevoked 25 = .ok (.istore_n 3, 1) := by decide +kernel
theorem dX5_setRevoked_26 : decode cX5_setRevoked 26 = .ok (.aload_n 0, 1) := by decide +kernel
theorem dX5_setRevoked_27 : decode cX5_setRevoked 27 = .ok (.getfield 30, 3) := by decide +kernel
theorem dX5_setRevoked_30 : decode cX5_setRevoked 30 = .ok (.iload_n 1, 1) := by decide +kernel
theorem dX5_setRevoked_31 : decode cX5_setRevoked 31 = .ok (.iload_n 2, 1) := by decide +kernel
theorem dX5_setRevoked_32 : decode cX5_setRevoked 32 = .ok (.bastore, 1) := by decide +kernel
theorem dX5_setRevoked_33 : decode cX5_setRevoked 33 = .ok (.iload_n 3, 1) := by decide +kernel
theorem dX5_setRevoked_34 : decode cX5_setRevoked 34 = .ok (.ireturn, 1) := by decide +kernel
theorem dX5_why_0 : decode cX5_why 0 = .ok (.iload_n 2, 1) := by decide +kernel
theorem dX5_why_1 : decode cX5_why 1 = .ok (.ifCond .ne 6, 3) := by decide +kernel
theorem dX5_why_4 : decode cX5_why 4 = .ok (.bipush 110, 2) := by decide +kernel
theorem dX5_why_6 : decode cX5_why 6 = .ok (.ireturn, 1) := by decide +kernel
theorem dX5_why_7 : decode cX5_why 7 = .ok (.aload_n 0, 1) := by decide +kernel
theorem dX5_why_8 : decode cX5_why 8 = .ok (.getfield 30, 3) := by decide +kernel
theorem dX5_why_11 : decode cX5_why 11 = .ok (.iload_n 1, 1) := by decide +kernel
theorem dX5_why_12 : decode cX5_why 12 = .ok (.baload, 1) := by decide +kernel
theorem dX5_why_13 : decode cX5_why 13 = .ok (.ifCond .eq 6, 3) := by decide +kernel
theorem dX5_why_16 : decode cX5_why 16 = .ok (.bipush 114, 2) := by decide +kernel
theorem dX5_why_18 : decode cX5_why 18 = .ok (.ireturn, 1) := by decide +kernel
theorem dX5_why_19 : decode cX5_why 19 = .ok (.aload_n 0, 1) := by decide +kernel
theorem dX5_why_20 : decode cX5_why 20 = .ok (.getfield 17, 3) := by decide +kernel
theorem dX5_why_23 : decode cX5_why 23 = .ok (.iload_n 2, 1) := by decide +kernel
theorem dX5_why_24 : decode cX5_why 24 = .ok (.iaload, 1) := by decide +kernel
theorem dX5_why_25 : decode cX5_why 25 = .ok (.iconst (-1), 1) := by decide +kernel
theorem dX5_why_26 : decode cX5_why 26 = .ok (.if_icmp .eq 26, 3) := by decide +kernel
theorem dX5_why_29 : decode cX5_why 29 = .ok (.aload_n 0, 1) := by decide +kernel
theorem dX5_why_30 : decode cX5_why 30 = .ok (.getfield 17, 3) := by decide +kernel
theorem dX5_why_33 : decode cX5_why 33 = .ok (.iload_n 2, 1) := by decide +kernel
theorem dX5_why_34 : decode cX5_why 34 = .ok (.iaload, 1) := by decide +kernel
theorem dX5_why_35 : decode cX5_why 35 = .ok (.aload_n 0, 1) := by decide +kernel
theorem dX5_why_36 : decode cX5_why 36 = .ok (.getfield 27, 3) := by decide +kernel
theorem dX5_why_39 : decode cX5_why 39 = .ok (.iload_n 1, 1) := by decide +kernel
theorem dX5_why_40 : decode cX5_why 40 = .ok (.iaload, 1) := by decide +kernel
theorem dX5_why_41 : decode cX5_why 41 = .ok (.if_icmp .ne 8, 3) := by decide +kernel
theorem dX5_why_44 : decode cX5_why 44 = .ok (.bipush 110, 2) := by decide +kernel
theorem dX5_why_46 : decode cX5_why 46 = .ok (.goto 5, 3) := by decide +kernel
theorem dX5_why_49 : decode cX5_why 49 = .ok (.bipush 116, 2) := by decide +kernel
theorem dX5_why_51 : decode cX5_why 51 = .ok (.ireturn, 1) := by decide +kernel
theorem dX5_why_52 : decode cX5_why 52 = .ok (.aload_n 0, 1) := by decide +kernel
theorem dX5_why_53 : decode cX5_why 53 = .ok (.getfield 91, 3) := by decide +kernel
theorem dX5_why_56 : decode cX5_why 56 = .ok (.bipush 100, 2) := by decide +kernel
theorem dX5_why_58 : decode cX5_why 58 = .ok (.irem, 1) := by decide +kernel
theorem dX5_why_59 : decode cX5_why 59 = .ok (.aload_n 0, 1) := by decide +kernel
theorem dX5_why_60 : decode cX5_why 60 = .ok (.getfield 21, 3) := by decide +kernel
theorem dX5_why_63 : decode cX5_why 63 = .ok (.iload_n 2, 1) := by decide +kernel
theorem dX5_why_64 : decode cX5_why 64 = .ok (.iaload, 1) := by decide +kernel
theorem dX5_why_65 : decode cX5_why 65 = .ok (.aload_n 0, 1) := by decide +kernel
theorem dX5_why_66 : decode cX5_why 66 = .ok (.getfield 24, 3) := by decide +kernel
theorem dX5_why_69 : decode cX5_why 69 = .ok (.iload_n 2, 1) := by decide +kernel
theorem dX5_why_70 : decode cX5_why 70 = .ok (.iaload, 1) := by decide +kernel
theorem dX5_why_71 : decode cX5_why 71 = .ok (.iconst 1, 1) := by decide +kernel
theorem dX5_why_72 : decode cX5_why 72 = .ok (.isub, 1) := by decide +kernel
theorem dX5_why_73 : decode cX5_why 73 = .ok (.invokestatic 7, 3) := by decide +kernel
theorem dX5_why_76 : decode cX5_why 76 = .ok (.ifCond .eq 8, 3) := by decide +kernel
theorem dX5_why_79 : decode cX5_why 79 = .ok (.bipush 110, 2) := by decide +kernel
theorem dX5_why_81 : decode cX5_why 81 = .ok (.goto 5, 3) := by decide +kernel
theorem dX5_why_84 : decode cX5_why 84 = .ok (.bipush 104, 2) := by decide +kernel
theorem dX5_why_86 : decode cX5_why 86 = .ok (.ireturn, 1) := by decide +kernel
theorem dX5_reason_0 : decode cX5_reason 0 = .ok (.aload_n 0, 1) := by decide +kernel
theorem dX5_reason_1 : decode cX5_reason 1 = .ok (.iconst 0, 1) := by decide +kernel
theorem dX5_reason_2 : decode cX5_reason 2 = .ok (.putfield 1, 3) := by decide +kernel
theorem dX5_reason_5 : decode cX5_reason 5 = .ok (.aload_n 0, 1) := by decide +kernel
theorem dX5_reason_6 : decode cX5_reason 6 = .ok (.iload_n 1, 1) := by decide +kernel
theorem dX5_reason_7 : decode cX5_reason 7 = .ok (.invokevirtual 84, 3) := by decide +kernel
theorem dX5_reason_10 : decode cX5_reason 10 = .ok (.ifCond .eq 19, 3) := by decide +kernel
theorem dX5_reason_13 : decode cX5_reason 13 = .ok (.iload_n 2, 1) := by decide +kernel
theorem dX5_reason_14 : decode cX5_reason 14 = .ok (.invokestatic 94, 3) := by decide +kernel
theorem dX5_reason_17 : decode cX5_reason 17 = .ok (.ifCond .eq 12, 3) := by decide +kernel
theorem dX5_reason_20 : decode cX5_reason 20 = .ok (.aload_n 0, 1) := by decide +kernel
theorem dX5_reason_21 : decode cX5_reason 21 = .ok (.iload_n 1, 1) := by decide +kernel
theorem dX5_reason_22 : decode cX5_reason 22 = .ok (.iload_n 2, 1) := by decide +kernel
theorem dX5_reason_23 : decode cX5_reason 23 = .ok (.invokevirtual 97, 3) := by decide +kernel
theorem dX5_reason_26 : decode cX5_reason 26 = .ok (.goto 9, 3) := by decide +kernel
theorem dX5_reason_29 : decode cX5_reason 29 = .ok (.aload_n 0, 1) := by decide +kernel
theorem dX5_reason_30 : decode cX5_reason 30 = .ok (.iconst 1, 1) := by decide +kernel
theorem dX5_reason_31 : decode cX5_reason 31 = .ok (.invokevirtual 80, 3) := by decide +kernel
theorem dX5_reason_34 : decode cX5_reason 34 = .ok (.i2c, 1) := by decide +kernel
theorem dX5_reason_35 : decode cX5_reason 35 = .ok (.ireturn, 1) := by decide +kernel
theorem dX5_aboardMany_0 : decode cX5_aboardMany 0 = .ok (.iconst 0, 1) := by decide +kernel
theorem dX5_aboardMany_1 : decode cX5_aboardMany 1 = .ok (.istore_n 2, 1) := by decide +kernel
theorem dX5_aboardMany_2 : decode cX5_aboardMany 2 = .ok (.iconst 0, 1) := by decide +kernel
theorem dX5_aboardMany_3 : decode cX5_aboardMany 3 = .ok (.istore_n 3, 1) := by decide +kernel
theorem dX5_aboardMany_4 : decode cX5_aboardMany 4 = .ok (.iload_n 3, 1) := by decide +kernel
theorem dX5_aboardMany_5 : decode cX5_aboardMany 5 = .ok (.aload_n 0, 1) := by decide +kernel
theorem dX5_aboardMany_6 : decode cX5_aboardMany 6 = .ok (.getfield 74, 3) := by decide +kernel
theorem dX5_aboardMany_9 : decode cX5_aboardMany 9 = .ok (.if_icmp .ge 38, 3) := by decide +kernel
theorem dX5_aboardMany_12 : decode cX5_aboardMany 12 = .ok (.iload_n 2, 1) := by decide +kernel
theorem dX5_aboardMany_13 : decode cX5_aboardMany 13 = .ok (.aload_n 0, 1) := by decide +kernel
theorem dX5_aboardMany_14 : decode cX5_aboardMany 14 = .ok (.getfield 52, 3) := by decide +kernel
theorem dX5_aboardMany_17 : decode cX5_aboardMany 17 = .ok (.iload_n 3, 1) := by decide +kernel
theorem dX5_aboardMany_18 : decode cX5_aboardMany 18 = .ok (.caload, 1) := by decide +kernel
theorem dX5_aboardMany_19 : decode cX5_aboardMany 19 = .ok (.bipush 97, 2) := by decide +kernel
theorem dX5_aboardMany_21 : decode cX5_aboardMany 21 = .ok (.if_icmp .ne 17, 3) := by decide +kernel
theorem dX5_aboardMany_24 : decode cX5_aboardMany 24 = .ok (.aload_n 0, 1) := by decide +kernel
theorem dX5_aboardMany_25 : decode cX5_aboardMany 25 = .ok (.getfield 43, 3) := by decide +kernel
theorem dX5_aboardMany_28 : decode cX5_aboardMany 28 = .ok (.iload_n 3, 1) := by decide +kernel
theorem dX5_aboardMany_29 : decode cX5_aboardMany 29 = .ok (.iaload, 1) := by decide +kernel
theorem dX5_aboardMany_30 : decode cX5_aboardMany 30 = .ok (.iload_n 1, 1) := by decide +kernel
theorem dX5_aboardMany_31 : decode cX5_aboardMany 31 = .ok (.if_icmp .ne 7, 3) := by decide +kernel
theorem dX5_aboardMany_34 : decode cX5_aboardMany 34 = .ok (.iconst 1, 1) := by decide +kernel
theorem dX5_aboardMany_35 : decode cX5_aboardMany 35 = .ok (.goto 4, 3) := by decide +kernel
theorem dX5_aboardMany_38 : decode cX5_aboardMany 38 = .ok (.iconst 0, 1) := by decide +kernel
theorem dX5_aboardMany_39 : decode cX5_aboardMany 39 = .ok (.iadd, 1) := by decide +kernel
theorem dX5_aboardMany_40 : decode cX5_aboardMany 40 = .ok (.istore_n 2, 1) := by decide +kernel
theorem dX5_aboardMany_41 : decode cX5_aboardMany 41 = .ok (.iinc 3 1, 3) := by decide +kernel
theorem dX5_aboardMany_44 : decode cX5_aboardMany 44 = .ok (.goto (-40), 3) := by decide +kernel
theorem dX5_aboardMany_47 : decode cX5_aboardMany 47 = .ok (.iload_n 2, 1) := by decide +kernel
theorem dX5_aboardMany_48 : decode cX5_aboardMany 48 = .ok (.ireturn, 1) := by decide +kernel
theorem dX5_scoreOf_0 : decode cX5_scoreOf 0 = .ok (.iconst 0, 1) := by decide +kernel
theorem dX5_scoreOf_1 : decode cX5_scoreOf 1 = .ok (.istore_n 3, 1) := by decide +kernel
theorem dX5_scoreOf_2 : decode cX5_scoreOf 2 = .ok (.iconst 0, 1) := by decide +kernel
theorem dX5_scoreOf_3 : decode cX5_scoreOf 3 = .ok (.istore 4, 2) := by decide +kernel
theorem dX5_scoreOf_5 : decode cX5_scoreOf 5 = .ok (.iload 4, 2) := by decide +kernel
theorem dX5_scoreOf_7 : decode cX5_scoreOf 7 = .ok (.aload_n 0, 1) := by decide +kernel
theorem dX5_scoreOf_8 : decode cX5_scoreOf 8 = .ok (.getfield 74, 3) := by decide +kernel
theorem dX5_scoreOf_11 : decode cX5_scoreOf 11 = .ok (.if_icmp .ge 40, 3) := by decide +kernel
theorem dX5_scoreOf_14 : decode cX5_scoreOf 14 = .ok (.iload_n 3, 1) := by decide +kernel
theorem dX5_scoreOf_15 : decode cX5_scoreOf 15 = .ok (.aload_n 0, 1) := by decide +kernel
theorem dX5_scoreOf_16 : decode cX5_scoreOf 16 = .ok (.getfield 52, 3) := by decide +kernel
theorem dX5_scoreOf_19 : decode cX5_scoreOf 19 = .ok (.iload 4, 2) := by decide +kernel
theorem dX5_scoreOf_21 : decode cX5_scoreOf 21 = .ok (.caload, 1) := by decide +kernel
theorem dX5_scoreOf_22 : decode cX5_scoreOf 22 = .ok (.bipush 100, 2) := by decide +kernel
theorem dX5_scoreOf_24 : decode cX5_scoreOf 24 = .ok (.if_icmp .eq 18, 3) := by decide +kernel
theorem dX5_scoreOf_27 : decode cX5_scoreOf 27 = .ok (.aload_n 0, 1) := by decide +kernel
theorem dX5_scoreOf_28 : decode cX5_scoreOf 28 = .ok (.getfield 43, 3) := by decide +kernel
theorem dX5_scoreOf_31 : decode cX5_scoreOf 31 = .ok (.iload 4, 2) := by decide +kernel
theorem dX5_scoreOf_33 : decode cX5_scoreOf 33 = .ok (.iaload, 1) := by decide +kernel
theorem dX5_scoreOf_34 : decode cX5_scoreOf 34 = .ok (.iload_n 1, 1) := by decide +kernel
theorem dX5_scoreOf_35 : decode cX5_scoreOf 35 = .ok (.if_icmp .ne 7, 3) := by decide +kernel
theorem dX5_scoreOf_38 : decode cX5_scoreOf 38 = .ok (.iconst 1, 1) := by decide +kernel
theorem dX5_scoreOf_39 : decode cX5_scoreOf 39 = .ok (.goto 4, 3) := by decide +kernel
theorem dX5_scoreOf_42 : decode cX5_scoreOf 42 = .ok (.iconst 0, 1) := by decide +kernel
theorem dX5_scoreOf_43 : decode cX5_scoreOf 43 = .ok (.iadd, 1) := by decide +kernel
theorem dX5_scoreOf_44 : decode cX5_scoreOf 44 = .ok (.istore_n 3, 1) := by decide +kernel
theorem dX5_scoreOf_45 : decode cX5_scoreOf 45 = .ok (.iinc 4 1, 3) := by decide +kernel
theorem dX5_scoreOf_48 : decode cX5_scoreOf 48 = .ok (.goto (-43), 3) := by decide +kernel
theorem dX5_scoreOf_51 : decode cX5_scoreOf 51 = .ok (.aload_n 0, 1) := by decide +kernel
theorem dX5_scoreOf_52 : decode cX5_scoreOf 52 = .ok (.getfield 59, 3) := by decide +kernel
theorem dX5_scoreOf_55 : decode cX5_scoreOf 55 = .ok (.iload_n 1, 1) := by decide +kernel
theorem dX5_scoreOf_56 : decode cX5_scoreOf 56 = .ok (.iaload, 1) := by decide +kernel
theorem dX5_scoreOf_57 : decode cX5_scoreOf 57 = .ok (.iload_n 2, 1) := by decide +kernel
theorem dX5_scoreOf_58 : decode cX5_scoreOf 58 = .ok (.isub, 1) := by decide +kernel
theorem dX5_scoreOf_59 : decode cX5_scoreOf 59 = .ok (.invokestatic 101, 3) := by decide +kernel
theorem dX5_scoreOf_62 : decode cX5_scoreOf 62 = .ok (.iconst 2, 1) := by decide +kernel
theorem dX5_scoreOf_63 : decode cX5_scoreOf 63 = .ok (.iload_n 3, 1) := by decide +kernel
theorem dX5_scoreOf_64 : decode cX5_scoreOf 64 = .ok (.imul, 1) := by decide +kernel
theorem dX5_scoreOf_65 : decode cX5_scoreOf 65 = .ok (.iadd, 1) := by decide +kernel
theorem dX5_scoreOf_66 : decode cX5_scoreOf 66 = .ok (.ireturn, 1) := by decide +kernel
theorem dX5_gives_0 : decode cX5_gives 0 = .ok (.iconst (-1), 1) := by decide +kernel
theorem dX5_gives_1 : decode cX5_gives 1 = .ok (.istore_n 2, 1) := by decide +kernel
theorem dX5_gives_2 : decode cX5_gives 2 = .ok (.iconst 0, 1) := by decide +kernel
theorem dX5_gives_3 : decode cX5_gives 3 = .ok (.istore_n 3, 1) := by decide +kernel
theorem dX5_gives_4 : decode cX5_gives 4 = .ok (.iload_n 3, 1) := by decide +kernel
theorem dX5_gives_5 : decode cX5_gives 5 = .ok (.aload_n 0, 1) := by decide +kernel
theorem dX5_gives_6 : decode cX5_gives 6 = .ok (.getfield 77, 3) := by decide +kernel
theorem dX5_gives_9 : decode cX5_gives 9 = .ok (.if_icmp .ge 51, 3) := by decide +kernel
theorem dX5_gives_12 : decode cX5_gives 12 = .ok (.aload_n 0, 1) := by decide +kernel
theorem dX5_gives_13 : decode cX5_gives 13 = .ok (.getfield 65, 3) := by decide +kernel
theorem dX5_gives_16 : decode cX5_gives 16 = .ok (.iload_n 3, 1) := by decide +kernel
theorem dX5_gives_17 : decode cX5_gives 17 = .ok (.caload, 1) := by decide +kernel
theorem dX5_gives_18 : decode cX5_gives 18 = .ok (.bipush 115, 2) := by decide +kernel
theorem dX5_gives_20 : decode cX5_gives 20 = .ok (.if_icmp .ne 34, 3) := by decide +kernel
theorem dX5_gives_23 : decode cX5_gives 23 = .ok (.iload_n 2, 1) := by decide +kernel
theorem dX5_gives_24 : decode cX5_gives 24 = .ok (.ifCond .lt 28, 3) := by decide +kernel
theorem dX5_gives_27 : decode cX5_gives 27 = .ok (.aload_n 0, 1) := by decide +kernel
theorem dX5_gives_28 : decode cX5_gives 28 = .ok (.iload_n 3, 1) := by decide +kernel
theorem dX5_gives_29 : decode cX5_gives 29 = .ok (.aload_n 0, 1) := by decide +kernel
theorem dX5_gives_30 : decode cX5_gives 30 = .ok (.getfield 37, 3) := by decide +kernel
theorem dX5_gives_33 : decode cX5_gives 33 = .ok (.iload_n 1, 1) := by decide +kernel
theorem dX5_gives_34 : decode cX5_gives 34 = .ok (.iaload, 1) := by decide +kernel
theorem dX5_gives_35 : decode cX5_gives 35 = .ok (.invokevirtual 106, 3) := by decide +kernel
theorem dX5_gives_38 : decode cX5_gives 38 = .ok (.aload_n 0, 1) := by decide +kernel
theorem dX5_gives_39 : decode cX5_gives 39 = .ok (.iload_n 2, 1) := by decide +kernel
theorem dX5_gives_40 : decode cX5_gives 40 = .ok (.aload_n 0, 1) := by decide +kernel
theorem dX5_gives_41 : decode cX5_gives 41 = .ok (.getfield 37, 3) := by decide +kernel
theorem dX5_gives_44 : decode cX5_gives 44 = .ok (.iload_n 1, 1) := by decide +kernel
theorem dX5_gives_45 : decode cX5_gives 45 = .ok (.iaload, 1) := by decide +kernel
theorem dX5_gives_46 : decode cX5_gives 46 = .ok (.invokevirtual 106, 3) := by decide +kernel
theorem dX5_gives_49 : decode cX5_gives 49 = .ok (.if_icmp .ge 5, 3) := by decide +kernel
theorem dX5_gives_52 : decode cX5_gives 52 = .ok (.iload_n 3, 1) := by decide +kernel
theorem dX5_gives_53 : decode cX5_gives 53 = .ok (.istore_n 2, 1) := by decide +kernel
theorem dX5_gives_54 : decode cX5_gives 54 = .ok (.iinc 3 1, 3) := by decide +kernel
theorem dX5_gives_57 : decode cX5_gives 57 = .ok (.goto (-53), 3) := by decide +kernel
theorem dX5_gives_60 : decode cX5_gives 60 = .ok (.aload_n 0, 1) := by decide +kernel
theorem dX5_gives_61 : decode cX5_gives 61 = .ok (.getfield 43, 3) := by decide +kernel
theorem dX5_gives_64 : decode cX5_gives 64 = .ok (.iload_n 1, 1) := by decide +kernel
theorem dX5_gives_65 : decode cX5_gives 65 = .ok (.iload_n 2, 1) := by decide +kernel
theorem dX5_gives_66 : decode cX5_gives 66 = .ok (.iastore, 1) := by decide +kernel
theorem dX5_gives_67 : decode cX5_gives 67 = .ok (.return_, 1) := by decide +kernel
theorem dX5_ends_0 : decode cX5_ends 0 = .ok (.aload_n 0, 1) := by decide +kernel
theorem dX5_ends_1 : decode cX5_ends 1 = .ok (.getfield 52, 3) := by decide +kernel
theorem dX5_ends_4 : decode cX5_ends 4 = .ok (.iload_n 1, 1) := by decide +kernel
theorem dX5_ends_5 : decode cX5_ends 5 = .ok (.caload, 1) := by decide +kernel
theorem dX5_ends_6 : decode cX5_ends 6 = .ok (.bipush 119, 2) := by decide +kernel
theorem dX5_ends_8 : decode cX5_ends 8 = .ok (.if_icmp .ne 13, 3) := by decide +kernel
theorem dX5_ends_11 : decode cX5_ends 11 = .ok (.aload_n 0, 1) := by decide +kernel
theorem dX5_ends_12 : decode cX5_ends 12 = .ok (.getfield 49, 3) := by decide +kernel
theorem dX5_ends_15 : decode cX5_ends 15 = .ok (.iload_n 1, 1) := by decide +kernel
theorem dX5_ends_16 : decode cX5_ends 16 = .ok (.aload_n 0, 1) := by decide +kernel
theorem dX5_ends_17 : decode cX5_ends 17 = .ok (.getfield 91, 3) := by decide +kernel
theorem dX5_ends_20 : decode cX5_ends 20 = .ok (.iastore, 1) := by decide +kernel
theorem dX5_ends_21 : decode cX5_ends 21 = .ok (.aload_n 0, 1) := by decide +kernel
theorem dX5_ends_22 : decode cX5_ends 22 = .ok (.getfield 52, 3) := by decide +kernel
theorem dX5_ends_25 : decode cX5_ends 25 = .ok (.iload_n 1, 1) := by decide +kernel
theorem dX5_ends_26 : decode cX5_ends 26 = .ok (.bipush 100, 2) := by decide +kernel
theorem dX5_ends_28 : decode cX5_ends 28 = .ok (.castore, 1) := by decide +kernel
theorem dX5_ends_29 : decode cX5_ends 29 = .ok (.aload_n 0, 1) := by decide +kernel
theorem dX5_ends_30 : decode cX5_ends 30 = .ok (.getfield 37, 3) := by decide +kernel
theorem dX5_ends_33 : decode cX5_ends 33 = .ok (.iload_n 1, 1) := by decide +kernel
theorem dX5_ends_34 : decode cX5_ends 34 = .ok (.iload_n 2, 1) := by decide +kernel
theorem dX5_ends_35 : decode cX5_ends 35 = .ok (.iastore, 1) := by decide +kernel
theorem dX5_ends_36 : decode cX5_ends 36 = .ok (.aload_n 0, 1) := by decide +kernel
theorem dX5_ends_37 : decode cX5_ends 37 = .ok (.getfield 43, 3) := by decide +kernel
theorem dX5_ends_40 : decode cX5_ends 40 = .ok (.iload_n 1, 1) := by decide +kernel
theorem dX5_ends_41 : decode cX5_ends 41 = .ok (.iconst (-1), 1) := by decide +kernel
theorem dX5_ends_42 : decode cX5_ends 42 = .ok (.iastore, 1) := by decide +kernel
theorem dX5_ends_43 : decode cX5_ends 43 = .ok (.aload_n 0, 1) := by decide +kernel
theorem dX5_ends_44 : decode cX5_ends 44 = .ok (.dup, 1) := by decide +kernel
theorem dX5_ends_45 : decode cX5_ends 45 = .ok (.getfield 110, 3) := by decide +kernel
theorem dX5_ends_48 : decode cX5_ends 48 = .ok (.iconst 1, 1) := by decide +kernel
theorem dX5_ends_49 : decode cX5_ends 49 = .ok (.iadd, 1) := by decide +kernel
theorem dX5_ends_50 : decode cX5_ends 50 = .ok (.putfield 110, 3) := by decide +kernel
theorem dX5_ends_53 : decode cX5_ends 53 = .ok (.aload_n 0, 1) := by decide +kernel
theorem dX5_ends_54 : decode cX5_ends 54 = .ok (.dup, 1) := by decide +kernel
theorem dX5_ends_55 : decode cX5_ends 55 = .ok (.getfield 113, 3) := by decide +kernel
theorem dX5_ends_58 : decode cX5_ends 58 = .ok (.iconst 1, 1) := by decide +kernel
theorem dX5_ends_59 : decode cX5_ends 59 = .ok (.iadd, 1) := by decide +kernel
theorem dX5_ends_60 : decode cX5_ends 60 = .ok (.putfield 113, 3) := by decide +kernel
theorem dX5_ends_63 : decode cX5_ends 63 = .ok (.return_, 1) := by decide +kernel
theorem dX5_isOut_0 : decode cX5_isOut 0 = .ok (.iconst 0, 1) := by decide +kernel
theorem dX5_isOut_1 : decode cX5_isOut 1 = .ok (.istore_n 2, 1) := by decide +kernel
theorem dX5_isOut_2 : decode cX5_isOut 2 = .ok (.iload_n 2, 1) := by decide +kernel
theorem dX5_isOut_3 : decode cX5_isOut 3 = .ok (.aload_n 0, 1) := by decide +kernel
theorem dX5_isOut_4 : decode cX5_isOut 4 = .ok (.getfield 74, 3) := by decide +kernel
theorem dX5_isOut_7 : decode cX5_isOut 7 = .ok (.if_icmp .ge 32, 3) := by decide +kernel
theorem dX5_isOut_10 : decode cX5_isOut 10 = .ok (.aload_n 0, 1) := by decide +kernel
theorem dX5_isOut_11 : decode cX5_isOut 11 = .ok (.getfield 34, 3) := by decide +kernel
theorem dX5_isOut_14 : decode cX5_isOut 14 = .ok (.iload_n 2, 1) := by decide +kernel
theorem dX5_isOut_15 : decode cX5_isOut 15 = .ok (.iaload, 1) := by decide +kernel
theorem dX5_isOut_16 : decode cX5_isOut 16 = .ok (.iload_n 1, 1) := by decide +kernel
theorem dX5_isOut_17 : decode cX5_isOut 17 = .ok (.if_icmp .ne 16, 3) := by decide +kernel
theorem dX5_isOut_20 : decode cX5_isOut 20 = .ok (.aload_n 0, 1) := by decide +kernel
theorem dX5_isOut_21 : decode cX5_isOut 21 = .ok (.getfield 52, 3) := by decide +kernel
theorem dX5_isOut_24 : decode cX5_isOut 24 = .ok (.iload_n 2, 1) := by decide +kernel
theorem dX5_isOut_25 : decode cX5_isOut 25 = .ok (.caload, 1) := by decide +kernel
theorem dX5_isOut_26 : decode cX5_isOut 26 = .ok (.bipush 100, 2) := by decide +kernel
theorem dX5_isOut_28 : decode cX5_isOut 28 = .ok (.if_icmp .eq 5, 3) := by decide +kernel
theorem dX5_isOut_31 : decode cX5_isOut 31 = .ok (.iconst 1, 1) := by decide +kernel
theorem dX5_isOut_32 : decode cX5_isOut 32 = .ok (.ireturn, 1) := by decide +kernel
theorem dX5_isOut_33 : decode cX5_isOut 33 = .ok (.iinc 2 1, 3) := by decide +kernel
theorem dX5_isOut_36 : decode cX5_isOut 36 = .ok (.goto (-34), 3) := by decide +kernel
theorem dX5_isOut_39 : decode cX5_isOut 39 = .ok (.iconst 0, 1) := by decide +kernel
theorem dX5_isOut_40 : decode cX5_isOut 40 = .ok (.ireturn, 1) := by decide +kernel
theorem dX5_call_0 : decode cX5_call 0 = .ok (.aload_n 0, 1) := by decide +kernel
theorem dX5_call_1 : decode cX5_call 1 = .ok (.iconst 0, 1) := by decide +kernel
theorem dX5_call_2 : decode cX5_call 2 = .ok (.putfield 1, 3) := by decide +kernel
theorem dX5_call_5 : decode cX5_call 5 = .ok (.aload_n 0, 1) := by decide +kernel
theorem dX5_call_6 : decode cX5_call 6 = .ok (.iload_n 1, 1) := by decide +kernel
theorem dX5_call_7 : decode cX5_call 7 = .ok (.invokevirtual 84, 3) := by decide +kernel
theorem dX5_call_10 : decode cX5_call 10 = .ok (.ifCond .eq 17, 3) := by decide +kernel
theorem dX5_call_13 : decode cX5_call 13 = .ok (.iload_n 2, 1) := by decide +kernel
theorem dX5_call_14 : decode cX5_call 14 = .ok (.invokestatic 94, 3) := by decide +kernel
theorem dX5_call_17 : decode cX5_call 17 = .ok (.ifCond .eq 10, 3) := by decide +kernel
theorem dX5_call_20 : decode cX5_call 20 = .ok (.iload_n 3, 1) := by decide +kernel
theorem dX5_call_21 : decode cX5_call 21 = .ok (.invokestatic 94, 3) := by decide +kernel
theorem dX5_call_24 : decode cX5_call 24 = .ok (.ifCond .ne 9, 3) := by decide +kernel
theorem dX5_call_27 : decode cX5_call 27 = .ok (.aload_n 0, 1) := by decide +kernel
theorem dX5_call_28 : decode cX5_call 28 = .ok (.iconst 1, 1) := by decide +kernel
theorem dX5_call_29 : decode cX5_call 29 = .ok (.invokevirtual 80, 3) := by decide +kernel
theorem dX5_call_32 : decode cX5_call 32 = .ok (.ireturn, 1) := by decide +kernel
theorem dX5_call_33 : decode cX5_call 33 = .ok (.iload_n 2, 1) := by decide +kernel
theorem dX5_call_34 : decode cX5_call 34 = .ok (.iload_n 3, 1) := by decide +kernel
theorem dX5_call_35 : decode cX5_call 35 = .ok (.if_icmp .ne 9, 3) := by decide +kernel
theorem dX5_call_38 : decode cX5_call 38 = .ok (.aload_n 0, 1) := by decide +kernel
theorem dX5_call_39 : decode cX5_call 39 = .ok (.iconst 2, 1) := by decide +kernel
theorem dX5_call_40 : decode cX5_call 40 = .ok (.invokevirtual 80, 3) := by decide +kernel
theorem dX5_call_43 : decode cX5_call 43 = .ok (.ireturn, 1) := by decide +kernel
theorem dX5_call_44 : decode cX5_call 44 = .ok (.aload_n 0, 1) := by decide +kernel
theorem dX5_call_45 : decode cX5_call 45 = .ok (.iload_n 1, 1) := by decide +kernel
theorem dX5_call_46 : decode cX5_call 46 = .ok (.iload_n 3, 1) := by decide +kernel
theorem dX5_call_47 : decode cX5_call 47 = .ok (.invokevirtual 97, 3) := by decide +kernel
theorem dX5_call_50 : decode cX5_call 50 = .ok (.bipush 110, 2) := by decide +kernel
theorem dX5_call_52 : decode cX5_call 52 = .ok (.if_icmp .eq 9, 3) := by decide +kernel
theorem dX5_call_55 : decode cX5_call 55 = .ok (.aload_n 0, 1) := by decide +kernel
theorem dX5_call_56 : decode cX5_call 56 = .ok (.iconst 3, 1) := by decide +kernel
theorem dX5_call_57 : decode cX5_call 57 = .ok (.invokevirtual 80, 3) := by decide +kernel
theorem dX5_call_60 : decode cX5_call 60 = .ok (.ireturn, 1) := by decide +kernel
theorem dX5_call_61 : decode cX5_call 61 = .ok (.aload_n 0, 1) := by decide +kernel
theorem dX5_call_62 : decode cX5_call 62 = .ok (.iload_n 1, 1) := by decide +kernel
theorem dX5_call_63 : decode cX5_call 63 = .ok (.invokevirtual 116, 3) := by decide +kernel
theorem dX5_call_66 : decode cX5_call 66 = .ok (.ifCond .ne 19, 3) := by decide +kernel
theorem dX5_call_69 : decode cX5_call 69 = .ok (.aload_n 0, 1) := by decide +kernel
theorem dX5_call_70 : decode cX5_call 70 = .ok (.getfield 119, 3) := by decide +kernel
theorem dX5_call_73 : decode cX5_call 73 = .ok (.ifCond .ne 12, 3) := by decide +kernel
theorem dX5_call_76 : decode cX5_call 76 = .ok (.aload_n 0, 1) := by decide +kernel
theorem dX5_call_77 : decode cX5_call 77 = .ok (.getfield 74, 3) := by decide +kernel
theorem dX5_call_80 : decode cX5_call 80 = .ok (.bipush 30, 2) := by decide +kernel
theorem dX5_call_82 : decode cX5_call 82 = .ok (.if_icmp .ne 9, 3) := by decide +kernel
theorem dX5_call_85 : decode cX5_call 85 = .ok (.aload_n 0, 1) := by decide +kernel
theorem dX5_call_86 : decode cX5_call 86 = .ok (.iconst 4, 1) := by decide +kernel
theorem dX5_call_87 : decode cX5_call 87 = .ok (.invokevirtual 80, 3) := by decide +kernel
theorem dX5_call_90 : decode cX5_call 90 = .ok (.ireturn, 1) := by decide +kernel
theorem dX5_call_91 : decode cX5_call 91 = .ok (.aload_n 0, 1) := by decide +kernel
theorem dX5_call_92 : decode cX5_call 92 = .ok (.getfield 74, 3) := by decide +kernel
theorem dX5_call_95 : decode cX5_call 95 = .ok (.istore 4, 2) := by decide +kernel
theorem dX5_call_97 : decode cX5_call 97 = .ok (.aload_n 0, 1) := by decide +kernel
theorem dX5_call_98 : decode cX5_call 98 = .ok (.getfield 34, 3) := by decide +kernel
theorem dX5_call_101 : decode cX5_call 101 = .ok (.iload 4, 2) := by decide +kernel
theorem dX5_call_103 : decode cX5_call 103 = .ok (.iload_n 1, 1) := by decide +kernel
theorem dX5_call_104 : decode cX5_call 104 = .ok (.iastore, 1) := by decide +kernel
theorem dX5_call_105 : decode cX5_call 105 = .ok (.aload_n 0, 1) := by decide +kernel
theorem dX5_call_106 : decode cX5_call 106 = .ok (.getfield 52, 3) := by decide +kernel
theorem dX5_call_109 : decode cX5_call 109 = .ok (.iload 4, 2) := by decide +kernel
theorem dX5_call_111 : decode cX5_call 111 = .ok (.bipush 119, 2) := by decide +kernel
theorem dX5_call_113 : decode cX5_call 113 = .ok (.castore, 1) := by decide +kernel
theorem dX5_call_114 : decode cX5_call 114 = .ok (.aload_n 0, 1) := by decide +kernel
theorem dX5_call_115 : decode cX5_call 115 = .ok (.getfield 37, 3) := by decide +kernel
theorem dX5_call_118 : decode cX5_call 118 = .ok (.iload 4, 2) := by decide +kernel
theorem dX5_call_120 : decode cX5_call 120 = .ok (.iload_n 2, 1) := by decide +kernel
theorem dX5_call_121 : decode cX5_call 121 = .ok (.iastore, 1) := by decide +kernel
theorem dX5_call_122 : decode cX5_call 122 = .ok (.aload_n 0, 1) := by decide +kernel
theorem dX5_call_123 : decode cX5_call 123 = .ok (.getfield 40, 3) := by decide +kernel
theorem dX5_call_126 : decode cX5_call 126 = .ok (.iload 4, 2) := by decide +kernel
theorem dX5_call_128 : decode cX5_call 128 = .ok (.iload_n 3, 1) := by decide +kernel
theorem dX5_call_129 : decode cX5_call 129 = .ok (.iastore, 1) := by decide +kernel
theorem dX5_call_130 : decode cX5_call 130 = .ok (.aload_n 0, 1) := by decide +kernel
theorem dX5_call_131 : decode cX5_call 131 = .ok (.getfield 43, 3) := by decide +kernel
theorem dX5_call_134 : decode cX5_call 134 = .ok (.iload 4, 2) := by decide +kernel
theorem dX5_call_136 : decode cX5_call 136 = .ok (.iconst (-1), 1) := by decide +kernel
theorem dX5_call_137 : decode cX5_call 137 = .ok (.iastore, 1) := by decide +kernel
theorem dX5_call_138 : decode cX5_call 138 = .ok (.aload_n 0, 1) := by decide +kernel
theorem dX5_call_139 : decode cX5_call 139 = .ok (.getfield 46, 3) := by decide +kernel
theorem dX5_call_142 : decode cX5_call 142 = .ok (.iload 4, 2) := by decide +kernel
theorem dX5_call_144 : decode cX5_call 144 = .ok (.aload_n 0, 1) := by decide +kernel
theorem dX5_call_145 : decode cX5_call 145 = .ok (.getfield 91, 3) := by decide +kernel
theorem dX5_call_148 : decode cX5_call 148 = .ok (.iastore, 1) := by decide +kernel
theorem dX5_call_149 : decode cX5_call 149 = .ok (.aload_n 0, 1) := by decide +kernel
theorem dX5_call_150 : decode cX5_call 150 = .ok (.dup, 1) := by decide +kernel
theorem dX5_call_151 : decode cX5_call 151 = .ok (.getfield 74, 3) := by decide +kernel
theorem dX5_call_154 : decode cX5_call 154 = .ok (.iconst 1, 1) := by decide +kernel
theorem dX5_call_155 : decode cX5_call 155 = .ok (.iadd, 1) := by decide +kernel
theorem dX5_call_156 : decode cX5_call 156 = .ok (.putfield 74, 3) := by decide +kernel
theorem dX5_call_159 : decode cX5_call 159 = .ok (.aload_n 0, 1) := by decide +kernel
theorem dX5_call_160 : decode cX5_call 160 = .ok (.dup, 1) := by decide +kernel
theorem dX5_call_161 : decode cX5_call 161 = .ok (.getfield 110, 3) := by decide +kernel
theorem dX5_call_164 : decode cX5_call 164 = .ok (.iconst 1, 1) := by decide +kernel
theorem dX5_call_165 : decode cX5_call 165 = .ok (.iadd, 1) := by decide +kernel
theorem dX5_call_166 : decode cX5_call 166 = .ok (.putfield 110, 3) := by decide +kernel
theorem dX5_call_169 : decode cX5_call 169 = .ok (.aload_n 0, 1) := by decide +kernel
theorem dX5_call_170 : decode cX5_call 170 = .ok (.iload 4, 2) := by decide +kernel
theorem dX5_call_172 : decode cX5_call 172 = .ok (.invokevirtual 123, 3) := by decide +kernel
theorem dX5_call_175 : decode cX5_call 175 = .ok (.iload 4, 2) := by decide +kernel
theorem dX5_call_177 : decode cX5_call 177 = .ok (.ireturn, 1) := by decide +kernel
theorem dX5_isNobody_0 : decode cX5_isNobody 0 = .ok (.aload_n 0, 1) := by decide +kernel
theorem dX5_isNobody_1 : decode cX5_isNobody 1 = .ok (.aload_n 0, 1) := by decide +kernel
theorem dX5_isNobody_2 : decode cX5_isNobody 2 = .ok (.iload_n 1, 1) := by decide +kernel
theorem dX5_isNobody_3 : decode cX5_isNobody 3 = .ok (.invokevirtual 127, 3) := by decide +kernel
theorem dX5_isNobody_6 : decode cX5_isNobody 6 = .ok (.ifCond .eq 7, 3) := by decide +kernel
theorem dX5_isNobody_9 : decode cX5_isNobody 9 = .ok (.iconst 0, 1) := by decide +kernel
theorem dX5_isNobody_10 : decode cX5_isNobody 10 = .ok (.goto 4, 3) := by decide +kernel
theorem dX5_isNobody_13 : decode cX5_isNobody 13 = .ok (.iconst 1, 1) := by decide +kernel
theorem dX5_isNobody_14 : decode cX5_isNobody 14 = .ok (.putfield 1, 3) := by decide +kernel
theorem dX5_isNobody_17 : decode cX5_isNobody 17 = .ok (.aload_n 0, 1) := by decide +kernel
theorem dX5_isNobody_18 : decode cX5_isNobody 18 = .ok (.getfield 1, 3) := by decide +kernel
theorem dX5_isNobody_21 : decode cX5_isNobody 21 = .ok (.ifCond .le 7, 3) := by decide +kernel
theorem dX5_isNobody_24 : decode cX5_isNobody 24 = .ok (.iconst 1, 1) := by decide +kernel
theorem dX5_isNobody_25 : decode cX5_isNobody 25 = .ok (.goto 4, 3) := by decide +kernel
theorem dX5_isNobody_28 : decode cX5_isNobody 28 = .ok (.iconst 0, 1) := by decide +kernel
theorem dX5_isNobody_29 : decode cX5_isNobody 29 = .ok (.ireturn, 1) := by decide +kernel
theorem dX5_state_0 : decode cX5_state 0 = .ok (.aload_n 0, 1) := by decide +kernel
theorem dX5_state_1 : decode cX5_state 1 = .ok (.iload_n 1, 1) := by decide +kernel
theorem dX5_state_2 : decode cX5_state 2 = .ok (.invokevirtual 130, 3) := by decide +kernel
theorem dX5_state_5 : decode cX5_state 5 = .ok (.ifCond .eq 7, 3) := by decide +kernel
theorem dX5_state_8 : decode cX5_state 8 = .ok (.iconst 0, 1) := by decide +kernel
theorem dX5_state_9 : decode cX5_state 9 = .ok (.goto 9, 3) := by decide +kernel
theorem dX5_state_12 : decode cX5_state 12 = .ok (.aload_n 0, 1) := by decide +kernel
theorem dX5_state_13 : decode cX5_state 13 = .ok (.getfield 52, 3) := by decide +kernel
theorem dX5_state_16 : decode cX5_state 16 = .ok (.iload_n 1, 1) := by decide +kernel
theorem dX5_state_17 : decode cX5_state 17 = .ok (.caload, 1) := by decide +kernel
theorem dX5_state_18 : decode cX5_state 18 = .ok (.ireturn, 1) := by decide +kernel
theorem dX5_floorOf_0 : decode cX5_floorOf 0 = .ok (.aload_n 0, 1) := by decide +kernel
theorem dX5_floorOf_1 : decode cX5_floorOf 1 = .ok (.iload_n 1, 1) := by decide +kernel
theorem dX5_floorOf_2 : decode cX5_floorOf 2 = .ok (.invokevirtual 130, 3) := by decide +kernel
theorem dX5_floorOf_5 : decode cX5_floorOf 5 = .ok (.ifCond .eq 5, 3) := by decide +kernel
theorem dX5_floorOf_8 : decode cX5_floorOf 8 = .ok (.iconst 0, 1) := by decide +kernel
theorem dX5_floorOf_9 : decode cX5_floorOf 9 = .ok (.ireturn, 1) := by decide +kernel
theorem dX5_floorOf_10 : decode cX5_floorOf 10 = .ok (.aload_n 0, 1) := by decide +kernel
theorem dX5_floorOf_11 : decode cX5_floorOf 11 = .ok (.getfield 52, 3) := by decide +kernel
theorem dX5_floorOf_14 : decode cX5_floorOf 14 = .ok (.iload_n 1, 1) := by decide +kernel
theorem dX5_floorOf_15 : decode cX5_floorOf 15 = .ok (.caload, 1) := by decide +kernel
theorem dX5_floorOf_16 : decode cX5_floorOf 16 = .ok (.bipush 97, 2) := by decide +kernel
theorem dX5_floorOf_18 : decode cX5_floorOf 18 = .ok (.if_icmp .ne 17, 3) := by decide +kernel
theorem dX5_floorOf_21 : decode cX5_floorOf 21 = .ok (.aload_n 0, 1) := by decide +kernel
theorem dX5_floorOf_22 : decode cX5_floorOf 22 = .ok (.getfield 59, 3) := by decide +kernel
theorem dX5_floorOf_25 : decode cX5_floorOf 25 = .ok (.aload_n 0, 1) := by decide +kernel
theorem dX5_floorOf_26 : decode cX5_floorOf 26 = .ok (.getfield 43, 3) := by decide +kernel
theorem dX5_floorOf_29 : decode cX5_floorOf 29 = .ok (.iload_n 1, 1) := by decide +kernel
theorem dX5_floorOf_30 : decode cX5_floorOf 30 = .ok (.iaload, 1) := by decide +kernel
theorem dX5_floorOf_31 : decode cX5_floorOf 31 = .ok (.iaload, 1) := by decide +kernel
theorem dX5_floorOf_32 : decode cX5_floorOf 32 = .ok (.goto 9, 3) := by decide +kernel
theorem dX5_floorOf_35 : decode cX5_floorOf 35 = .ok (.aload_n 0, 1) := by decide +kernel
theorem dX5_floorOf_36 : decode cX5_floorOf 36 = .ok (.getfield 37, 3) := by decide +kernel
theorem dX5_floorOf_39 : decode cX5_floorOf 39 = .ok (.iload_n 1, 1) := by decide +kernel
theorem dX5_floorOf_40 : decode cX5_floorOf 40 = .ok (.iaload, 1) := by decide +kernel
theorem dX5_floorOf_41 : decode cX5_floorOf 41 = .ok (.ireturn, 1) := by decide +kernel
theorem dX5_aim_0 : decode cX5_aim 0 = .ok (.aload_n 0, 1) := by decide +kernel
theorem dX5_aim_1 : decode cX5_aim 1 = .ok (.iload_n 1, 1) := by decide +kernel
theorem dX5_aim_2 : decode cX5_aim 2 = .ok (.invokevirtual 130, 3) := by decide +kernel
theorem dX5_aim_5 : decode cX5_aim 5 = .ok (.ifCond .eq 7, 3) := by decide +kernel
theorem dX5_aim_8 : decode cX5_aim 8 = .ok (.iconst 0, 1) := by decide +kernel
theorem dX5_aim_9 : decode cX5_aim 9 = .ok (.goto 9, 3) := by decide +kernel
theorem dX5_aim_12 : decode cX5_aim 12 = .ok (.aload_n 0, 1) := by decide +kernel
theorem dX5_aim_13 : decode cX5_aim 13 = .ok (.getfield 40, 3) := by decide +kernel
theorem dX5_aim_16 : decode cX5_aim 16 = .ok (.iload_n 1, 1) := by decide +kernel
theorem dX5_aim_17 : decode cX5_aim 17 = .ok (.iaload, 1) := by decide +kernel
theorem dX5_aim_18 : decode cX5_aim 18 = .ok (.ireturn, 1) := by decide +kernel
theorem dX5_liftOf_0 : decode cX5_liftOf 0 = .ok (.aload_n 0, 1) := by decide +kernel
theorem dX5_liftOf_1 : decode cX5_liftOf 1 = .ok (.iload_n 1, 1) := by decide +kernel
theorem dX5_liftOf_2 : decode cX5_liftOf 2 = .ok (.invokevirtual 130, 3) := by decide +kernel
theorem dX5_liftOf_5 : decode cX5_liftOf 5 = .ok (.ifCond .eq 5, 3) := by decide +kernel
theorem dX5_liftOf_8 : decode cX5_liftOf 8 = .ok (.iconst 0, 1) := by decide +kernel
theorem dX5_liftOf_9 : decode cX5_liftOf 9 = .ok (.ireturn, 1) := by decide +kernel
theorem dX5_liftOf_10 : decode cX5_liftOf 10 = .ok (.aload_n 0, 1) := by decide +kernel
theorem dX5_liftOf_11 : decode cX5_liftOf 11 = .ok (.getfield 43, 3) := by decide +kernel
theorem dX5_liftOf_14 : decode cX5_liftOf 14 = .ok (.iload_n 1, 1) := by decide +kernel
theorem dX5_liftOf_15 : decode cX5_liftOf 15 = .ok (.iaload, 1) := by decide +kernel
theorem dX5_liftOf_16 : decode cX5_liftOf 16 = .ok (.ifCond .ge 11, 3) := by decide +kernel
theorem dX5_liftOf_19 : decode cX5_liftOf 19 = .ok (.aload_n 0, 1) := by decide +kernel
theorem dX5_liftOf_20 : decode cX5_liftOf 20 = .ok (.iconst 2, 1) := by decide +kernel
theorem dX5_liftOf_21 : decode cX5_liftOf 21 = .ok (.invokevirtual 80, 3) := by decide +kernel
theorem dX5_liftOf_24 : decode cX5_liftOf 24 = .ok (.goto 9, 3) := by decide +kernel
theorem dX5_liftOf_27 : decode cX5_liftOf 27 = .ok (.aload_n 0, 1) := by decide +kernel
theorem dX5_liftOf_28 : decode cX5_liftOf 28 = .ok (.getfield 43, 3) := by decide +kernel
theorem dX5_liftOf_31 : decode cX5_liftOf 31 = .ok (.iload_n 1, 1) := by decide +kernel
theorem dX5_liftOf_32 : decode cX5_liftOf 32 = .ok (.iaload, 1) := by decide +kernel
theorem dX5_liftOf_33 : decode cX5_liftOf 33 = .ok (.ireturn, 1) := by decide +kernel
theorem dX5_waitedBy_0 : decode cX5_waitedBy 0 = .ok (.aload_n 0, 1) := by decide +kernel
theorem dX5_waitedBy_1 : decode cX5_waitedBy 1 = .ok (.getfield 52, 3) := by decide +kernel
theorem dX5_waitedBy_4 : decode cX5_waitedBy 4 = .ok (.iload_n 1, 1) := by decide +kernel
theorem dX5_waitedBy_5 : decode cX5_waitedBy 5 = .ok (.caload, 1) := by decide +kernel
theorem dX5_waitedBy_6 : decode cX5_waitedBy 6 = .ok (.bipush 119, 2) := by decide +kernel
theorem dX5_waitedBy_8 : decode cX5_waitedBy 8 = .ok (.if_icmp .ne 10, 3) := by decide +kernel
theorem dX5_waitedBy_11 : decode cX5_waitedBy 11 = .ok (.aload_n 0, 1) := by decide +kernel
theorem dX5_waitedBy_12 : decode cX5_waitedBy 12 = .ok (.getfield 91, 3) := by decide +kernel
theorem dX5_waitedBy_15 : decode cX5_waitedBy 15 = .ok (.goto 9, 3) := by decide +kernel
theorem dX5_waitedBy_18 : decode cX5_waitedBy 18 = .ok (.aload_n 0, 1) := by decide +kernel
theorem dX5_waitedBy_19 : decode cX5_waitedBy 19 = .ok (.getfield 49, 3) := by decide +kernel
theorem dX5_waitedBy_22 : decode cX5_waitedBy 22 = .ok (.iload_n 1, 1) := by decide +kernel
theorem dX5_waitedBy_23 : decode cX5_waitedBy 23 = .ok (.iaload, 1) := by decide +kernel
theorem dX5_waitedBy_24 : decode cX5_waitedBy 24 = .ok (.aload_n 0, 1) := by decide +kernel
theorem dX5_waitedBy_25 : decode cX5_waitedBy 25 = .ok (.getfield 46, 3) := by decide +kernel
theorem dX5_waitedBy_28 : decode cX5_waitedBy 28 = .ok (.iload_n 1, 1) := by decide +kernel
theorem dX5_waitedBy_29 : decode cX5_waitedBy 29 = .ok (.iaload, 1) := by decide +kernel
theorem dX5_waitedBy_30 : decode cX5_waitedBy 30 = .ok (.isub, 1) := by decide +kernel
theorem dX5_waitedBy_31 : decode cX5_waitedBy 31 = .ok (.ireturn, 1) := by decide +kernel
theorem dX5_waited_0 : decode cX5_waited 0 = .ok (.aload_n 0, 1) := by decide +kernel
theorem dX5_waited_1 : decode cX5_waited 1 = .ok (.iload_n 1, 1) := by decide +kernel
theorem dX5_waited_2 : decode cX5_waited 2 = .ok (.invokevirtual 130, 3) := by decide +kernel
theorem dX5_waited_5 : decode cX5_waited 5 = .ok (.ifCond .eq 7, 3) := by decide +kernel
theorem dX5_waited_8 : decode cX5_waited 8 = .ok (.iconst 0, 1) := by decide +kernel
theorem dX5_waited_9 : decode cX5_waited 9 = .ok (.goto 8, 3) := by decide +kernel
theorem dX5_waited_12 : decode cX5_waited 12 = .ok (.aload_n 0, 1) := by decide +kernel
theorem dX5_waited_13 : decode cX5_waited 13 = .ok (.iload_n 1, 1) := by decide +kernel
theorem dX5_waited_14 : decode cX5_waited 14 = .ok (.invokevirtual 133, 3) := by decide +kernel
theorem dX5_waited_17 : decode cX5_waited 17 = .ok (.ireturn, 1) := by decide +kernel
theorem dX5_waitedByLog_0 : decode cX5_waitedByLog 0 = .ok (.aload_n 0, 1) := by decide +kernel
theorem dX5_waitedByLog_1 : decode cX5_waitedByLog 1 = .ok (.iload_n 1, 1) := by decide +kernel
theorem dX5_waitedByLog_2 : decode cX5_waitedByLog 2 = .ok (.invokevirtual 136, 3) := by decide +kernel
theorem dX5_waitedByLog_5 : decode cX5_waitedByLog 5 = .ok (.ireturn, 1) := by decide +kernel
theorem dX5_entries_0 : decode cX5_entries 0 = .ok (.aload_n 0, 1) := by decide +kernel
theorem dX5_entries_1 : decode cX5_entries 1 = .ok (.iconst 0, 1) := by decide +kernel
theorem dX5_entries_2 : decode cX5_entries 2 = .ok (.putfield 1, 3) := by decide +kernel
theorem dX5_entries_5 : decode cX5_entries 5 = .ok (.aload_n 0, 1) := by decide +kernel
theorem dX5_entries_6 : decode cX5_entries 6 = .ok (.getfield 110, 3) := by decide +kernel
theorem dX5_entries_9 : decode cX5_entries 9 = .ok (.ireturn, 1) := by decide +kernel
theorem dX5_frees_0 : decode cX5_frees 0 = .ok (.iconst 0, 1) := by decide +kernel
theorem dX5_frees_1 : decode cX5_frees 1 = .ok (.istore_n 2, 1) := by decide +kernel
theorem dX5_frees_2 : decode cX5_frees 2 = .ok (.iconst 0, 1) := by decide +kernel
theorem dX5_frees_3 : decode cX5_frees 3 = .ok (.istore_n 3, 1) := by decide +kernel
theorem dX5_frees_4 : decode cX5_frees 4 = .ok (.iload_n 3, 1) := by decide +kernel
theorem dX5_frees_5 : decode cX5_frees 5 = .ok (.aload_n 0, 1) := by decide +kernel
theorem dX5_frees_6 : decode cX5_frees 6 = .ok (.getfield 74, 3) := by decide +kernel
theorem dX5_frees_9 : decode cX5_frees 9 = .ok (.if_icmp .ge 56, 3) := by decide +kernel
theorem dX5_frees_12 : decode cX5_frees 12 = .ok (.aload_n 0, 1) := by decide +kernel
theorem dX5_frees_13 : decode cX5_frees 13 = .ok (.getfield 52, 3) := by decide +kernel
theorem dX5_frees_16 : decode cX5_frees 16 = .ok (.iload_n 3, 1) := by decide +kernel
theorem dX5_frees_17 : decode cX5_frees 17 = .ok (.caload, 1) := by decide +kernel
theorem dX5_frees_18 : decode cX5_frees 18 = .ok (.bipush 119, 2) := by decide +kernel
theorem dX5_frees_20 : decode cX5_frees 20 = .ok (.if_icmp .ne 39, 3) := by decide +kernel
theorem dX5_frees_23 : decode cX5_frees 23 = .ok (.aload_n 0, 1) := by decide +kernel
theorem dX5_frees_24 : decode cX5_frees 24 = .ok (.getfield 43, 3) := by decide +kernel
theorem dX5_frees_27 : decode cX5_frees 27 = .ok (.iload_n 3, 1) := by decide +kernel
theorem dX5_frees_28 : decode cX5_frees 28 = .ok (.iaload, 1) := by decide +kernel
theorem dX5_frees_29 : decode cX5_frees 29 = .ok (.ifCond .lt 30, 3) := by decide +kernel
theorem dX5_frees_32 : decode cX5_frees 32 = .ok (.iload_n 1, 1) := by decide +kernel
theorem dX5_frees_33 : decode cX5_frees 33 = .ok (.ifCond .lt 16, 3) := by decide +kernel
theorem dX5_frees_36 : decode cX5_frees 36 = .ok (.aload_n 0, 1) := by decide +kernel
theorem dX5_frees_37 : decode cX5_frees 37 = .ok (.getfield 43, 3) := by decide +kernel
theorem dX5_frees_40 : decode cX5_frees 40 = .ok (.iload_n 3, 1) := by decide +kernel
theorem dX5_frees_41 : decode cX5_frees 41 = .ok (.iaload, 1) := by decide +kernel
theorem dX5_frees_42 : decode cX5_frees 42 = .ok (.iload_n 1, 1) := by decide +kernel
theorem dX5_frees_43 : decode cX5_frees 43 = .ok (.if_icmp .eq 6, 3) := by decide +kernel
theorem dX5_frees_46 : decode cX5_frees 46 = .ok (.goto 13, 3) := by decide +kernel
theorem dX5_frees_49 : decode cX5_frees 49 = .ok (.aload_n 0, 1) := by decide +kernel
theorem dX5_frees_50 : decode cX5_frees 50 = .ok (.getfield 43, 3) := by decide +kernel
theorem dX5_frees_53 : decode cX5_frees 53 = .ok (.iload_n 3, 1) := by decide +kernel
theorem dX5_frees_54 : decode cX5_frees 54 = .ok (.iconst (-1), 1) := by decide +kernel
theorem dX5_frees_55 : decode cX5_frees 55 = .ok (.iastore, 1) := by decide +kernel
theorem dX5_frees_56 : decode cX5_frees 56 = .ok (.iinc 2 1, 3) := by decide +kernel
theorem dX5_frees_59 : decode cX5_frees 59 = .ok (.iinc 3 1, 3) := by decide +kernel
theorem dX5_frees_62 : decode cX5_frees 62 = .ok (.goto (-58), 3) := by decide +kernel
theorem dX5_frees_65 : decode cX5_frees 65 = .ok (.iload_n 2, 1) := by decide +kernel
theorem dX5_frees_66 : decode cX5_frees 66 = .ok (.ireturn, 1) := by decide +kernel
theorem dX5_callOff_0 : decode cX5_callOff 0 = .ok (.aload_n 0, 1) := by decide +kernel
theorem dX5_callOff_1 : decode cX5_callOff 1 = .ok (.iconst 0, 1) := by decide +kernel
theorem dX5_callOff_2 : decode cX5_callOff 2 = .ok (.putfield 1, 3) := by decide +kernel
theorem dX5_callOff_5 : decode cX5_callOff 5 = .ok (.aload_n 0, 1) := by decide +kernel
theorem dX5_callOff_6 : decode cX5_callOff 6 = .ok (.iload_n 1, 1) := by decide +kernel
theorem dX5_callOff_7 : decode cX5_callOff 7 = .ok (.invokevirtual 139, 3) := by decide +kernel
theorem dX5_callOff_10 : decode cX5_callOff 10 = .ok (.ifCond .ne 9, 3) := by decide +kernel
theorem dX5_callOff_13 : decode cX5_callOff 13 = .ok (.aload_n 0, 1) := by decide +kernel
theorem dX5_callOff_14 : decode cX5_callOff 14 = .ok (.iconst 1, 1) := by decide +kernel
theorem dX5_callOff_15 : decode cX5_callOff 15 = .ok (.invokevirtual 80, 3) := by decide +kernel
theorem dX5_callOff_18 : decode cX5_callOff 18 = .ok (.ireturn, 1) := by decide +kernel
theorem dX5_callOff_19 : decode cX5_callOff 19 = .ok (.aload_n 0, 1) := by decide +kernel
theorem dX5_callOff_20 : decode cX5_callOff 20 = .ok (.getfield 65, 3) := by decide +kernel
theorem dX5_callOff_23 : decode cX5_callOff 23 = .ok (.iload_n 1, 1) := by decide +kernel
theorem dX5_callOff_24 : decode cX5_callOff 24 = .ok (.caload, 1) := by decide +kernel
theorem dX5_callOff_25 : decode cX5_callOff 25 = .ok (.bipush 115, 2) := by decide +kernel
theorem dX5_callOff_27 : decode cX5_callOff 27 = .ok (.if_icmp .ne 10, 3) := by decide +kernel
theorem dX5_callOff_30 : decode cX5_callOff 30 = .ok (.aload_n 0, 1) := by decide +kernel
theorem dX5_callOff_31 : decode cX5_callOff 31 = .ok (.getfield 119, 3) := by decide +kernel
theorem dX5_callOff_34 : decode cX5_callOff 34 = .ok (.ifCond .eq 9, 3) := by decide +kernel
theorem dX5_callOff_37 : decode cX5_callOff 37 = .ok (.aload_n 0, 1) := by decide +kernel
theorem dX5_callOff_38 : decode cX5_callOff 38 = .ok (.iconst 2, 1) := by decide +kernel
theorem dX5_callOff_39 : decode cX5_callOff 39 = .ok (.invokevirtual 80, 3) := by decide +kernel
theorem dX5_callOff_42 : decode cX5_callOff 42 = .ok (.ireturn, 1) := by decide +kernel
theorem dX5_callOff_43 : decode cX5_callOff 43 = .ok (.aload_n 0, 1) := by decide +kernel
theorem dX5_callOff_44 : decode cX5_callOff 44 = .ok (.getfield 65, 3) := by decide +kernel
theorem dX5_callOff_47 : decode cX5_callOff 47 = .ok (.iload_n 1, 1) := by decide +kernel
theorem dX5_callOff_48 : decode cX5_callOff 48 = .ok (.bipush 111, 2) := by decide +kernel
theorem dX5_callOff_50 : decode cX5_callOff 50 = .ok (.castore, 1) := by decide +kernel
theorem dX5_callOff_51 : decode cX5_callOff 51 = .ok (.aload_n 0, 1) := by decide +kernel
theorem dX5_callOff_52 : decode cX5_callOff 52 = .ok (.iload_n 1, 1) := by decide +kernel
theorem dX5_callOff_53 : decode cX5_callOff 53 = .ok (.invokevirtual 142, 3) := by decide +kernel
theorem dX5_callOff_56 : decode cX5_callOff 56 = .ok (.ireturn, 1) := by decide +kernel
theorem dX5_isNoLift_0 : decode cX5_isNoLift 0 = .ok (.aload_n 0, 1) := by decide +kernel
theorem dX5_isNoLift_1 : decode cX5_isNoLift 1 = .ok (.aload_n 0, 1) := by decide +kernel
theorem dX5_isNoLift_2 : decode cX5_isNoLift 2 = .ok (.iload_n 1, 1) := by decide +kernel
theorem dX5_isNoLift_3 : decode cX5_isNoLift 3 = .ok (.invokevirtual 139, 3) := by decide +kernel
theorem dX5_isNoLift_6 : decode cX5_isNoLift 6 = .ok (.ifCond .eq 7, 3) := by decide +kernel
theorem dX5_isNoLift_9 : decode cX5_isNoLift 9 = .ok (.iconst 0, 1) := by decide +kernel
theorem dX5_isNoLift_10 : decode cX5_isNoLift 10 = .ok (.goto 4, 3) := by decide +kernel
theorem dX5_isNoLift_13 : decode cX5_isNoLift 13 = .ok (.iconst 1, 1) := by decide +kernel
theorem dX5_isNoLift_14 : decode cX5_isNoLift 14 = .ok (.putfield 1, 3) := by decide +kernel
theorem dX5_isNoLift_17 : decode cX5_isNoLift 17 = .ok (.aload_n 0, 1) := by decide +kernel
theorem dX5_isNoLift_18 : decode cX5_isNoLift 18 = .ok (.getfield 1, 3) := by decide +kernel
theorem dX5_isNoLift_21 : decode cX5_isNoLift 21 = .ok (.ifCond .le 7, 3) := by decide +kernel
theorem dX5_isNoLift_24 : decode cX5_isNoLift 24 = .ok (.iconst 1, 1) := by decide +kernel
theorem dX5_isNoLift_25 : decode cX5_isNoLift 25 = .ok (.goto 4, 3) := by decide +kernel
theorem dX5_isNoLift_28 : decode cX5_isNoLift 28 = .ok (.iconst 0, 1) := by decide +kernel
theorem dX5_isNoLift_29 : decode cX5_isNoLift 29 = .ok (.ireturn, 1) := by decide +kernel
theorem dX5_service_0 : decode cX5_service 0 = .ok (.aload_n 0, 1) := by decide +kernel
theorem dX5_service_1 : decode cX5_service 1 = .ok (.iload_n 1, 1) := by decide +kernel
theorem dX5_service_2 : decode cX5_service 2 = .ok (.invokevirtual 145, 3) := by decide +kernel
theorem dX5_service_5 : decode cX5_service 5 = .ok (.ifCond .eq 7, 3) := by decide +kernel
theorem dX5_service_8 : decode cX5_service 8 = .ok (.iconst 0, 1) := by decide +kernel
theorem dX5_service_9 : decode cX5_service 9 = .ok (.goto 9, 3) := by decide +kernel
theorem dX5_service_12 : decode cX5_service 12 = .ok (.aload_n 0, 1) := by decide +kernel
theorem dX5_service_13 : decode cX5_service 13 = .ok (.getfield 65, 3) := by decide +kernel
theorem dX5_service_16 : decode cX5_service 16 = .ok (.iload_n 1, 1) := by decide +kernel
theorem dX5_service_17 : decode cX5_service 17 = .ok (.caload, 1) := by decide +kernel
theorem dX5_service_18 : decode cX5_service 18 = .ok (.ireturn, 1) := by decide +kernel
theorem dX5_floorOfLift_0 : decode cX5_floorOfLift 0 = .ok (.aload_n 0, 1) := by decide +kernel
theorem dX5_floorOfLift_1 : decode cX5_floorOfLift 1 = .ok (.iload_n 1, 1) := by decide +kernel
theorem dX5_floorOfLift_2 : decode cX5_floorOfLift 2 = .ok (.invokevirtual 145, 3) := by decide +kernel
theorem dX5_floorOfLift_5 : decode cX5_floorOfLift 5 = .ok (.ifCond .eq 7, 3) := by decide +kernel
theorem dX5_floorOfLift_8 : decode cX5_floorOfLift 8 = .ok (.iconst 0, 1) := by decide +kernel
theorem dX5_floorOfLift_9 : decode cX5_floorOfLift 9 = .ok (.goto 9, 3) := by decide +kernel
theorem dX5_floorOfLift_12 : decode cX5_floorOfLift 12 = .ok (.aload_n 0, 1) := by decide +kernel
theorem dX5_floorOfLift_13 : decode cX5_floorOfLift 13 = .ok (.getfield 59, 3) := by decide +kernel
theorem dX5_floorOfLift_16 : decode cX5_floorOfLift 16 = .ok (.iload_n 1, 1) := by decide +kernel
theorem dX5_floorOfLift_17 : decode cX5_floorOfLift 17 = .ok (.iaload, 1) := by decide +kernel
theorem dX5_floorOfLift_18 : decode cX5_floorOfLift 18 = .ok (.ireturn, 1) := by decide +kernel
theorem dX5_isUp_0 : decode cX5_isUp 0 = .ok (.aload_n 0, 1) := by decide +kernel
theorem dX5_isUp_1 : decode cX5_isUp 1 = .ok (.iload_n 1, 1) := by decide +kernel
theorem dX5_isUp_2 : decode cX5_isUp 2 = .ok (.invokevirtual 145, 3) := by decide +kernel
theorem dX5_isUp_5 : decode cX5_isUp 5 = .ok (.ifCond .ne 16, 3) := by decide +kernel
theorem dX5_isUp_8 : decode cX5_isUp 8 = .ok (.aload_n 0, 1) := by decide +kernel
theorem dX5_isUp_9 : decode cX5_isUp 9 = .ok (.getfield 68, 3) := by decide +kernel
theorem dX5_isUp_12 : decode cX5_isUp 12 = .ok (.iload_n 1, 1) := by decide +kernel
theorem dX5_isUp_13 : decode cX5_isUp 13 = .ok (.baload, 1) := by decide +kernel
theorem dX5_isUp_14 : decode cX5_isUp 14 = .ok (.ifCond .eq 7, 3) := by decide +kernel
theorem dX5_isUp_17 : decode cX5_isUp 17 = .ok (.iconst 1, 1) := by decide +kernel
theorem dX5_isUp_18 : decode cX5_isUp 18 = .ok (.goto 4, 3) := by decide +kernel
theorem dX5_isUp_21 : decode cX5_isUp 21 = .ok (.iconst 0, 1) := by decide +kernel
theorem dX5_isUp_22 : decode cX5_isUp 22 = .ok (.ireturn, 1) := by decide +kernel
theorem dX5_aboard_0 : decode cX5_aboard 0 = .ok (.aload_n 0, 1) := by decide +kernel
theorem dX5_aboard_1 : decode cX5_aboard 1 = .ok (.iload_n 1, 1) := by decide +kernel
theorem dX5_aboard_2 : decode cX5_aboard 2 = .ok (.invokevirtual 145, 3) := by decide +kernel
theorem dX5_aboard_5 : decode cX5_aboard 5 = .ok (.ifCond .eq 7, 3) := by decide +kernel
theorem dX5_aboard_8 : decode cX5_aboard 8 = .ok (.iconst 0, 1) := by decide +kernel
theorem dX5_aboard_9 : decode cX5_aboard 9 = .ok (.goto 8, 3) := by decide +kernel
theorem dX5_aboard_12 : decode cX5_aboard 12 = .ok (.aload_n 0, 1) := by decide +kernel
theorem dX5_aboard_13 : decode cX5_aboard 13 = .ok (.iload_n 1, 1) := by decide +kernel
theorem dX5_aboard_14 : decode cX5_aboard 14 = .ok (.invokevirtual 148, 3) := by decide +kernel
theorem dX5_aboard_17 : decode cX5_aboard 17 = .ok (.ireturn, 1) := by decide +kernel
theorem dX5_score_0 : decode cX5_score 0 = .ok (.aload_n 0, 1) := by decide +kernel
theorem dX5_score_1 : decode cX5_score 1 = .ok (.aload_n 0, 1) := by decide +kernel
theorem dX5_score_2 : decode cX5_score 2 = .ok (.iload_n 1, 1) := by decide +kernel
theorem dX5_score_3 : decode cX5_score 3 = .ok (.invokevirtual 139, 3) := by decide +kernel
theorem dX5_score_6 : decode cX5_score 6 = .ok (.ifCond .eq 14, 3) := by decide +kernel
theorem dX5_score_9 : decode cX5_score 9 = .ok (.iload_n 2, 1) := by decide +kernel
theorem dX5_score_10 : decode cX5_score 10 = .ok (.invokestatic 94, 3) := by decide +kernel
theorem dX5_score_13 : decode cX5_score 13 = .ok (.ifCond .eq 7, 3) := by decide +kernel
theorem dX5_score_16 : decode cX5_score 16 = .ok (.iconst 0, 1) := by decide +kernel
theorem dX5_score_17 : decode cX5_score 17 = .ok (.goto 4, 3) := by decide +kernel
theorem dX5_score_20 : decode cX5_score 20 = .ok (.iconst 1, 1) := by decide +kernel
theorem dX5_score_21 : decode cX5_score 21 = .ok (.putfield 1, 3) := by decide +kernel
theorem dX5_score_24 : decode cX5_score 24 = .ok (.aload_n 0, 1) := by decide +kernel
theorem dX5_score_25 : decode cX5_score 25 = .ok (.getfield 1, 3) := by decide +kernel
theorem dX5_score_28 : decode cX5_score 28 = .ok (.ifCond .le 7, 3) := by decide +kernel
theorem dX5_score_31 : decode cX5_score 31 = .ok (.iconst 0, 1) := by decide +kernel
theorem dX5_score_32 : decode cX5_score 32 = .ok (.goto 9, 3) := by decide +kernel
theorem dX5_score_35 : decode cX5_score 35 = .ok (.aload_n 0, 1) := by decide +kernel
theorem dX5_score_36 : decode cX5_score 36 = .ok (.iload_n 1, 1) := by decide +kernel
theorem dX5_score_37 : decode cX5_score 37 = .ok (.iload_n 2, 1) := by decide +kernel
theorem dX5_score_38 : decode cX5_score 38 = .ok (.invokevirtual 106, 3) := by decide +kernel
theorem dX5_score_41 : decode cX5_score 41 = .ok (.ireturn, 1) := by decide +kernel
theorem dX5_opens_0 : decode cX5_opens 0 = .ok (.iconst 0, 1) := by decide +kernel
theorem dX5_opens_1 : decode cX5_opens 1 = .ok (.istore_n 2, 1) := by decide +kernel
theorem dX5_opens_2 : decode cX5_opens 2 = .ok (.iconst 0, 1) := by decide +kernel
theorem dX5_opens_3 : decode cX5_opens 3 = .ok (.istore_n 3, 1) := by decide +kernel
theorem dX5_opens_4 : decode cX5_opens 4 = .ok (.iload_n 3, 1) := by decide +kernel
theorem dX5_opens_5 : decode cX5_opens 5 = .ok (.aload_n 0, 1) := by decide +kernel
theorem dX5_opens_6 : decode cX5_opens 6 = .ok (.getfield 74, 3) := by decide +kernel
theorem dX5_opens_9 : decode cX5_opens 9 = .ok (.if_icmp .ge 102, 3) := by decide +kernel
theorem dX5_opens_12 : decode cX5_opens 12 = .ok (.aload_n 0, 1) := by decide +kernel
theorem dX5_opens_13 : decode cX5_opens 13 = .ok (.getfield 52, 3) := by decide +kernel
theorem dX5_opens_16 : decode cX5_opens 16 = .ok (.iload_n 3, 1) := by decide +kernel
theorem dX5_opens_17 : decode cX5_opens 17 = .ok (.caload, 1) := by decide +kernel
theorem dX5_opens_18 : decode cX5_opens 18 = .ok (.bipush 97, 2) := by decide +kernel
theorem dX5_opens_20 : decode cX5_opens 20 = .ok (.if_icmp .ne 85, 3) := by decide +kernel
theorem dX5_opens_23 : decode cX5_opens 23 = .ok (.aload_n 0, 1) := by decide +kernel
theorem dX5_opens_24 : decode cX5_opens 24 = .ok (.getfield 43, 3) := by decide +kernel
theorem dX5_opens_27 : decode cX5_opens 27 = .ok (.iload_n 3, 1) := by decide +kernel
theorem dX5_opens_28 : decode cX5_opens 28 = .ok (.iaload, 1) := by decide +kernel
theorem dX5_opens_29 : decode cX5_opens 29 = .ok (.iload_n 1, 1) := by decide +kernel
theorem dX5_opens_30 : decode cX5_opens 30 = .ok (.if_icmp .ne 75, 3) := by decide +kernel
theorem dX5_opens_33 : decode cX5_opens 33 = .ok (.aload_n 0, 1) := by decide +kernel
theorem dX5_opens_34 : decode cX5_opens 34 = .ok (.getfield 40, 3) := by decide +kernel
theorem dX5_opens_37 : decode cX5_opens 37 = .ok (.iload_n 3, 1) := by decide +kernel
theorem dX5_opens_38 : decode cX5_opens 38 = .ok (.iaload, 1) := by decide +kernel
theorem dX5_opens_39 : decode cX5_opens 39 = .ok (.aload_n 0, 1) := by decide +kernel
theorem dX5_opens_40 : decode cX5_opens 40 = .ok (.getfield 59, 3) := by decide +kernel
theorem dX5_opens_43 : decode cX5_opens 43 = .ok (.iload_n 1, 1) := by decide +kernel
theorem dX5_opens_44 : decode cX5_opens 44 = .ok (.iaload, 1) := by decide +kernel
theorem dX5_opens_45 : decode cX5_opens 45 = .ok (.if_icmp .eq 6, 3) := by decide +kernel
theorem dX5_opens_48 : decode cX5_opens 48 = .ok (.goto 57, 3) := by decide +kernel
theorem dX5_opens_51 : decode cX5_opens 51 = .ok (.aload_n 0, 1) := by decide +kernel
theorem dX5_opens_52 : decode cX5_opens 52 = .ok (.aload_n 0, 1) := by decide +kernel
theorem dX5_opens_53 : decode cX5_opens 53 = .ok (.getfield 34, 3) := by decide +kernel
theorem dX5_opens_56 : decode cX5_opens 56 = .ok (.iload_n 3, 1) := by decide +kernel
theorem dX5_opens_57 : decode cX5_opens 57 = .ok (.iaload, 1) := by decide +kernel
theorem dX5_opens_58 : decode cX5_opens 58 = .ok (.aload_n 0, 1) := by decide +kernel
theorem dX5_opens_59 : decode cX5_opens 59 = .ok (.getfield 59, 3) := by decide +kernel
theorem dX5_opens_62 : decode cX5_opens 62 = .ok (.iload_n 1, 1) := by decide +kernel
theorem dX5_opens_63 : decode cX5_opens 63 = .ok (.iaload, 1) := by decide +kernel
theorem dX5_opens_64 : decode cX5_opens 64 = .ok (.invokevirtual 97, 3) := by decide +kernel
theorem dX5_opens_67 : decode cX5_opens 67 = .ok (.bipush 110, 2) := by decide +kernel
theorem dX5_opens_69 : decode cX5_opens 69 = .ok (.if_icmp .ne 19, 3) := by decide +kernel
theorem dX5_opens_72 : decode cX5_opens 72 = .ok (.aload_n 0, 1) := by decide +kernel
theorem dX5_opens_73 : decode cX5_opens 73 = .ok (.iload_n 3, 1) := by decide +kernel
theorem dX5_opens_74 : decode cX5_opens 74 = .ok (.aload_n 0, 1) := by decide +kernel
theorem dX5_opens_75 : decode cX5_opens 75 = .ok (.getfield 59, 3) := by decide +kernel
theorem dX5_opens_78 : decode cX5_opens 78 = .ok (.iload_n 1, 1) := by decide +kernel
theorem dX5_opens_79 : decode cX5_opens 79 = .ok (.iaload, 1) := by decide +kernel
theorem dX5_opens_80 : decode cX5_opens 80 = .ok (.invokevirtual 151, 3) := by decide +kernel
theorem dX5_opens_83 : decode cX5_opens 83 = .ok (.iconst 1, 1) := by decide +kernel
theorem dX5_opens_84 : decode cX5_opens 84 = .ok (.istore_n 2, 1) := by decide +kernel
theorem dX5_opens_85 : decode cX5_opens 85 = .ok (.goto 20, 3) := by decide +kernel
theorem dX5_opens_88 : decode cX5_opens 88 = .ok (.aload_n 0, 1) := by decide +kernel
theorem dX5_opens_89 : decode cX5_opens 89 = .ok (.getfield 40, 3) := by decide +kernel
theorem dX5_opens_92 : decode cX5_opens 92 = .ok (.iload_n 3, 1) := by decide +kernel
theorem dX5_opens_93 : decode cX5_opens 93 = .ok (.iconst 0, 1) := by decide +kernel
theorem dX5_opens_94 : decode cX5_opens 94 = .ok (.iastore, 1) := by decide +kernel
theorem dX5_opens_95 : decode cX5_opens 95 = .ok (.aload_n 0, 1) := by decide +kernel
theorem dX5_opens_96 : decode cX5_opens 96 = .ok (.dup, 1) := by decide +kernel
theorem dX5_opens_97 : decode cX5_opens 97 = .ok (.getfield 155, 3) := by decide +kernel
theorem dX5_opens_100 : decode cX5_opens 100 = .ok (.iconst 1, 1) := by decide +kernel
theorem dX5_opens_101 : decode cX5_opens 101 = .ok (.iadd, 1) := by decide +kernel
theorem dX5_opens_102 : decode cX5_opens 102 = .ok (.putfield 155, 3) := by decide +kernel
theorem dX5_opens_105 : decode cX5_opens 105 = .ok (.iinc 3 1, 3) := by decide +kernel
theorem dX5_opens_108 : decode cX5_opens 108 = .ok (.goto (-104), 3) := by decide +kernel
theorem dX5_opens_111 : decode cX5_opens 111 = .ok (.iconst 0, 1) := by decide +kernel
theorem dX5_opens_112 : decode cX5_opens 112 = .ok (.istore_n 3, 1) := by decide +kernel
theorem dX5_opens_113 : decode cX5_opens 113 = .ok (.iload_n 3, 1) := by decide +kernel
theorem dX5_opens_114 : decode cX5_opens 114 = .ok (.aload_n 0, 1) := by decide +kernel
theorem dX5_opens_115 : decode cX5_opens 115 = .ok (.getfield 74, 3) := by decide +kernel
theorem dX5_opens_118 : decode cX5_opens 118 = .ok (.if_icmp .ge 103, 3) := by decide +kernel
theorem dX5_opens_121 : decode cX5_opens 121 = .ok (.aload_n 0, 1) := by decide +kernel
theorem dX5_opens_122 : decode cX5_opens 122 = .ok (.getfield 65, 3) := by decide +kernel
theorem dX5_opens_125 : decode cX5_opens 125 = .ok (.iload_n 1, 1) := by decide +kernel
theorem dX5_opens_126 : decode cX5_opens 126 = .ok (.caload, 1) := by decide +kernel
theorem dX5_opens_127 : decode cX5_opens 127 = .ok (.bipush 115, 2) := by decide +kernel
theorem dX5_opens_129 : decode cX5_opens 129 = .ok (.if_icmp .ne 92, 3) := by decide +kernel
theorem dX5_opens_132 : decode cX5_opens 132 = .ok (.aload_n 0, 1) := by decide +kernel
theorem dX5_opens_133 : decode cX5_opens 133 = .ok (.getfield 52, 3) := by decide +kernel
theorem dX5_opens_136 : decode cX5_opens 136 = .ok (.iload_n 3, 1) := by decide +kernel
theorem dX5_opens_137 : decode cX5_opens 137 = .ok (.caload, 1) := by decide +kernel
theorem dX5_opens_138 : decode cX5_opens 138 = .ok (.bipush 119, 2) := by decide +kernel
theorem dX5_opens_140 : decode cX5_opens 140 = .ok (.if_icmp .ne 75, 3) := by decide +kernel
theorem dX5_opens_143 : decode cX5_opens 143 = .ok (.aload_n 0, 1) := by decide +kernel
theorem dX5_opens_144 : decode cX5_opens 144 = .ok (.getfield 43, 3) := by decide +kernel
theorem dX5_opens_147 : decode cX5_opens 147 = .ok (.iload_n 3, 1) := by decide +kernel
theorem dX5_opens_148 : decode cX5_opens 148 = .ok (.iaload, 1) := by decide +kernel
theorem dX5_opens_149 : decode cX5_opens 149 = .ok (.iload_n 1, 1) := by decide +kernel
theorem dX5_opens_150 : decode cX5_opens 150 = .ok (.if_icmp .ne 65, 3) := by decide +kernel
theorem dX5_opens_153 : decode cX5_opens 153 = .ok (.aload_n 0, 1) := by decide +kernel
theorem dX5_opens_154 : decode cX5_opens 154 = .ok (.getfield 37, 3) := by decide +kernel
theorem dX5_opens_157 : decode cX5_opens 157 = .ok (.iload_n 3, 1) := by decide +kernel
theorem dX5_opens_158 : decode cX5_opens 158 = .ok (.iaload, 1) := by decide +kernel
theorem dX5_opens_159 : decode cX5_opens 159 = .ok (.aload_n 0, 1) := by decide +kernel
theorem dX5_opens_160 : decode cX5_opens 160 = .ok (.getfield 59, 3) := by decide +kernel
theorem dX5_opens_163 : decode cX5_opens 163 = .ok (.iload_n 1, 1) := by decide +kernel
theorem dX5_opens_164 : decode cX5_opens 164 = .ok (.iaload, 1) := by decide +kernel
theorem dX5_opens_165 : decode cX5_opens 165 = .ok (.if_icmp .ne 50, 3) := by decide +kernel
theorem dX5_opens_168 : decode cX5_opens 168 = .ok (.aload_n 0, 1) := by decide +kernel
theorem dX5_opens_169 : decode cX5_opens 169 = .ok (.iload_n 1, 1) := by decide +kernel
theorem dX5_opens_170 : decode cX5_opens 170 = .ok (.invokevirtual 148, 3) := by decide +kernel
theorem dX5_opens_173 : decode cX5_opens 173 = .ok (.aload_n 0, 1) := by decide +kernel
theorem dX5_opens_174 : decode cX5_opens 174 = .ok (.getfield 56, 3) := by decide +kernel
theorem dX5_opens_177 : decode cX5_opens 177 = .ok (.iload_n 1, 1) := by decide +kernel
theorem dX5_opens_178 : decode cX5_opens 178 = .ok (.iaload, 1) := by decide +kernel
theorem dX5_opens_179 : decode cX5_opens 179 = .ok (.if_icmp .ne 6, 3) := by decide +kernel
theorem dX5_opens_182 : decode cX5_opens 182 = .ok (.goto 33, 3) := by decide +kernel
theorem dX5_opens_185 : decode cX5_opens 185 = .ok (.aload_n 0, 1) := by decide +kernel
theorem dX5_opens_186 : decode cX5_opens 186 = .ok (.getfield 52, 3) := by decide +kernel
theorem dX5_opens_189 : decode cX5_opens 189 = .ok (.iload_n 3, 1) := by decide +kernel
theorem dX5_opens_190 : decode cX5_opens 190 = .ok (.bipush 97, 2) := by decide +kernel
theorem dX5_opens_192 : decode cX5_opens 192 = .ok (.castore, 1) := by decide +kernel
theorem dX5_opens_193 : decode cX5_opens 193 = .ok (.aload_n 0, 1) := by decide +kernel
theorem dX5_opens_194 : decode cX5_opens 194 = .ok (.getfield 49, 3) := by decide +kernel
theorem dX5_opens_197 : decode cX5_opens 197 = .ok (.iload_n 3, 1) := by decide +kernel
theorem dX5_opens_198 : decode cX5_opens 198 = .ok (.aload_n 0, 1) := by decide +kernel
theorem dX5_opens_199 : decode cX5_opens 199 = .ok (.getfield 91, 3) := by decide +kernel
theorem dX5_opens_202 : decode cX5_opens 202 = .ok (.iastore, 1) := by decide +kernel
theorem dX5_opens_203 : decode cX5_opens 203 = .ok (.aload_n 0, 1) := by decide +kernel
theorem dX5_opens_204 : decode cX5_opens 204 = .ok (.dup, 1) := by decide +kernel
theorem dX5_opens_205 : decode cX5_opens 205 = .ok (.getfield 110, 3) := by decide +kernel
theorem dX5_opens_208 : decode cX5_opens 208 = .ok (.iconst 1, 1) := by decide +kernel
theorem dX5_opens_209 : decode cX5_opens 209 = .ok (.iadd, 1) := by decide +kernel
theorem dX5_opens_210 : decode cX5_opens 210 = .ok (.putfield 110, 3) := by decide +kernel
theorem dX5_opens_213 : decode cX5_opens 213 = .ok (.iconst 1, 1) := by decide +kernel
theorem dX5_opens_214 : decode cX5_opens 214 = .ok (.istore_n 2, 1) := by decide +kernel
theorem dX5_opens_215 : decode cX5_opens 215 = .ok (.iinc 3 1, 3) := by decide +kernel
theorem dX5_opens_218 : decode cX5_opens 218 = .ok (.goto (-105), 3) := by decide +kernel
theorem dX5_opens_221 : decode cX5_opens 221 = .ok (.iload_n 2, 1) := by decide +kernel
theorem dX5_opens_222 : decode cX5_opens 222 = .ok (.ireturn, 1) := by decide +kernel
theorem dX5_isAim_0 : decode cX5_isAim 0 = .ok (.aload_n 0, 1) := by decide +kernel
theorem dX5_isAim_1 : decode cX5_isAim 1 = .ok (.getfield 43, 3) := by decide +kernel
theorem dX5_isAim_4 : decode cX5_isAim 4 = .ok (.iload_n 2, 1) := by decide +kernel
theorem dX5_isAim_5 : decode cX5_isAim 5 = .ok (.iaload, 1) := by decide +kernel
theorem dX5_isAim_6 : decode cX5_isAim 6 = .ok (.iload_n 1, 1) := by decide +kernel
theorem dX5_isAim_7 : decode cX5_isAim 7 = .ok (.if_icmp .ne 14, 3) := by decide +kernel
theorem dX5_isAim_10 : decode cX5_isAim 10 = .ok (.aload_n 0, 1) := by decide +kernel
theorem dX5_isAim_11 : decode cX5_isAim 11 = .ok (.getfield 52, 3) := by decide +kernel
theorem dX5_isAim_14 : decode cX5_isAim 14 = .ok (.iload_n 2, 1) := by decide +kernel
theorem dX5_isAim_15 : decode cX5_isAim 15 = .ok (.caload, 1) := by decide +kernel
theorem dX5_isAim_16 : decode cX5_isAim 16 = .ok (.bipush 100, 2) := by decide +kernel
theorem dX5_isAim_18 : decode cX5_isAim 18 = .ok (.if_icmp .ne 5, 3) := by decide +kernel
theorem dX5_isAim_21 : decode cX5_isAim 21 = .ok (.iconst 0, 1) := by decide +kernel
theorem dX5_isAim_22 : decode cX5_isAim 22 = .ok (.ireturn, 1) := by decide +kernel
theorem dX5_isAim_23 : decode cX5_isAim 23 = .ok (.aload_n 0, 1) := by decide +kernel
theorem dX5_isAim_24 : decode cX5_isAim 24 = .ok (.getfield 52, 3) := by decide +kernel
theorem dX5_isAim_27 : decode cX5_isAim 27 = .ok (.iload_n 2, 1) := by decide +kernel
theorem dX5_isAim_28 : decode cX5_isAim 28 = .ok (.caload, 1) := by decide +kernel
theorem dX5_isAim_29 : decode cX5_isAim 29 = .ok (.bipush 97, 2) := by decide +kernel
theorem dX5_isAim_31 : decode cX5_isAim 31 = .ok (.if_icmp .ne 19, 3) := by decide +kernel
theorem dX5_isAim_34 : decode cX5_isAim 34 = .ok (.aload_n 0, 1) := by decide +kernel
theorem dX5_isAim_35 : decode cX5_isAim 35 = .ok (.getfield 40, 3) := by decide +kernel
theorem dX5_isAim_38 : decode cX5_isAim 38 = .ok (.iload_n 2, 1) := by decide +kernel
theorem dX5_isAim_39 : decode cX5_isAim 39 = .ok (.iaload, 1) := by decide +kernel
theorem dX5_isAim_40 : decode cX5_isAim 40 = .ok (.iload_n 3, 1) := by decide +kernel
theorem dX5_isAim_41 : decode cX5_isAim 41 = .ok (.if_icmp .ne 7, 3) := by decide +kernel
theorem dX5_isAim_44 : decode cX5_isAim 44 = .ok (.iconst 1, 1) := by decide +kernel
theorem dX5_isAim_45 : decode cX5_isAim 45 = .ok (.goto 4, 3) := by decide +kernel
theorem dX5_isAim_48 : decode cX5_isAim 48 = .ok (.iconst 0, 1) := by decide +kernel
theorem dX5_isAim_49 : decode cX5_isAim 49 = .ok (.ireturn, 1) := by decide +kernel
theorem dX5_isAim_50 : decode cX5_isAim 50 = .ok (.aload_n 0, 1) := by decide +kernel
theorem dX5_isAim_51 : decode cX5_isAim 51 = .ok (.getfield 37, 3) := by decide +kernel
theorem dX5_isAim_54 : decode cX5_isAim 54 = .ok (.iload_n 2, 1) := by decide +kernel
theorem dX5_isAim_55 : decode cX5_isAim 55 = .ok (.iaload, 1) := by decide +kernel
theorem dX5_isAim_56 : decode cX5_isAim 56 = .ok (.iload_n 3, 1) := by decide +kernel
theorem dX5_isAim_57 : decode cX5_isAim 57 = .ok (.if_icmp .ne 32, 3) := by decide +kernel
theorem dX5_isAim_60 : decode cX5_isAim 60 = .ok (.aload_n 0, 1) := by decide +kernel
theorem dX5_isAim_61 : decode cX5_isAim 61 = .ok (.getfield 65, 3) := by decide +kernel
theorem dX5_isAim_64 : decode cX5_isAim 64 = .ok (.iload_n 1, 1) := by decide +kernel
theorem dX5_isAim_65 : decode cX5_isAim 65 = .ok (.caload, 1) := by decide +kernel
theorem dX5_isAim_66 : decode cX5_isAim 66 = .ok (.bipush 115, 2) := by decide +kernel
theorem dX5_isAim_68 : decode cX5_isAim 68 = .ok (.if_icmp .ne 21, 3) := by decide +kernel
theorem dX5_isAim_71 : decode cX5_isAim 71 = .ok (.aload_n 0, 1) := by decide +kernel
theorem dX5_isAim_72 : decode cX5_isAim 72 = .ok (.iload_n 1, 1) := by decide +kernel
theorem dX5_isAim_73 : decode cX5_isAim 73 = .ok (.invokevirtual 148, 3) := by decide +kernel
theorem dX5_isAim_76 : decode cX5_isAim 76 = .ok (.aload_n 0, 1) := by decide +kernel
theorem dX5_isAim_77 : decode cX5_isAim 77 = .ok (.getfield 56, 3) := by decide +kernel
theorem dX5_isAim_80 : decode cX5_isAim 80 = .ok (.iload_n 1, 1) := by decide +kernel
theorem dX5_isAim_81 : decode cX5_isAim 81 = .ok (.iaload, 1) := by decide +kernel
theorem dX5_isAim_82 : decode cX5_isAim 82 = .ok (.if_icmp .ge 7, 3) := by decide +kernel
theorem dX5_isAim_85 : decode cX5_isAim 85 = .ok (.iconst 1, 1) := by decide +kernel
theorem dX5_isAim_86 : decode cX5_isAim 86 = .ok (.goto 4, 3) := by decide +kernel
theorem dX5_isAim_89 : decode cX5_isAim 89 = .ok (.iconst 0, 1) := by decide +kernel
theorem dX5_isAim_90 : decode cX5_isAim 90 = .ok (.ireturn, 1) := by decide +kernel
theorem dX5_hasAim_0 : decode cX5_hasAim 0 = .ok (.iload_n 2, 1) := by decide +kernel
theorem dX5_hasAim_1 : decode cX5_hasAim 1 = .ok (.istore 4, 2) := by decide +kernel
theorem dX5_hasAim_3 : decode cX5_hasAim 3 = .ok (.iload 4, 2) := by decide +kernel
theorem dX5_hasAim_5 : decode cX5_hasAim 5 = .ok (.iload_n 3, 1) := by decide +kernel
theorem dX5_hasAim_6 : decode cX5_hasAim 6 = .ok (.if_icmp .gt 41, 3) := by decide +kernel
theorem dX5_hasAim_9 : decode cX5_hasAim 9 = .ok (.iconst 0, 1) := by decide +kernel
theorem dX5_hasAim_10 : decode cX5_hasAim 10 = .ok (.istore 5, 2) := by decide +kernel
theorem dX5_hasAim_12 : decode cX5_hasAim 12 = .ok (.iload 5, 2) := by decide +kernel
theorem dX5_hasAim_14 : decode cX5_hasAim 14 = .ok (.aload_n 0, 1) := by decide +kernel
theorem dX5_hasAim_15 : decode cX5_hasAim 15 = .ok (.getfield 74, 3) := by decide +kernel
theorem dX5_hasAim_18 : decode cX5_hasAim 18 = .ok (.if_icmp .ge 23, 3) := by decide +kernel
theorem dX5_hasAim_21 : decode cX5_hasAim 21 = .ok (.aload_n 0, 1) := by decide +kernel
theorem dX5_hasAim_22 : decode cX5_hasAim 22 = .ok (.iload_n 1, 1) := by decide +kernel
theorem dX5_hasAim_23 : decode cX5_hasAim 23 = .ok (.iload 5, 2) := by decide +kernel
theorem dX5_hasAim_25 : decode cX5_hasAim 25 = .ok (.iload 4, 2) := by decide +kernel
theorem dX5_hasAim_27 : decode cX5_hasAim 27 = .ok (.invokevirtual 158, 3) := by decide +kernel
theorem dX5_hasAim_30 : decode cX5_hasAim 30 = .ok (.ifCond .eq 5, 3) := by decide +kernel
theorem dX5_hasAim_33 : decode cX5_hasAim 33 = .ok (.iconst 1, 1) := by decide +kernel
theorem dX5_hasAim_34 : decode cX5_hasAim 34 = .ok (.ireturn, 1) := by decide +kernel
theorem dX5_hasAim_35 : decode cX5_hasAim 35 = .ok (.iinc 5 1, 3) := by decide +kernel
theorem dX5_hasAim_38 : decode cX5_hasAim 38 = .ok (.goto (-26), 3) := by decide +kernel
theorem dX5_hasAim_41 : decode cX5_hasAim 41 = .ok (.iinc 4 1, 3) := by decide +kernel
theorem dX5_hasAim_44 : decode cX5_hasAim 44 = .ok (.goto (-41), 3) := by decide +kernel
theorem dX5_hasAim_47 : decode cX5_hasAim 47 = .ok (.iconst 0, 1) := by decide +kernel
theorem dX5_hasAim_48 : decode cX5_hasAim 48 = .ok (.ireturn, 1) := by decide +kernel
theorem dX5_goes_0 : decode cX5_goes 0 = .ok (.aload_n 0, 1) := by decide +kernel
theorem dX5_goes_1 : decode cX5_goes 1 = .ok (.iload_n 1, 1) := by decide +kernel
theorem dX5_goes_2 : decode cX5_goes 2 = .ok (.aload_n 0, 1) := by decide +kernel
theorem dX5_goes_3 : decode cX5_goes 3 = .ok (.getfield 59, 3) := by decide +kernel
theorem dX5_goes_6 : decode cX5_goes 6 = .ok (.iload_n 1, 1) := by decide +kernel
theorem dX5_goes_7 : decode cX5_goes 7 = .ok (.iaload, 1) := by decide +kernel
theorem dX5_goes_8 : decode cX5_goes 8 = .ok (.iconst 1, 1) := by decide +kernel
theorem dX5_goes_9 : decode cX5_goes 9 = .ok (.iadd, 1) := by decide +kernel
theorem dX5_goes_10 : decode cX5_goes 10 = .ok (.bipush 9, 2) := by decide +kernel
theorem dX5_goes_12 : decode cX5_goes 12 = .ok (.invokevirtual 161, 3) := by decide +kernel
theorem dX5_goes_15 : decode cX5_goes 15 = .ok (.istore_n 2, 1) := by decide +kernel
theorem dX5_goes_16 : decode cX5_goes 16 = .ok (.aload_n 0, 1) := by decide +kernel
theorem dX5_goes_17 : decode cX5_goes 17 = .ok (.iload_n 1, 1) := by decide +kernel
theorem dX5_goes_18 : decode cX5_goes 18 = .ok (.iconst 0, 1) := by decide +kernel
theorem dX5_goes_19 : decode cX5_goes 19 = .ok (.aload_n 0, 1) := by decide +kernel
theorem dX5_goes_20 : decode cX5_goes 20 = .ok (.getfield 59, 3) := by decide +kernel
theorem dX5_goes_23 : decode cX5_goes 23 = .ok (.iload_n 1, 1) := by decide +kernel
theorem dX5_goes_24 : decode cX5_goes 24 = .ok (.iaload, 1) := by decide +kernel
theorem dX5_goes_25 : decode cX5_goes 25 = .ok (.iconst 1, 1) := by decide +kernel
theorem dX5_goes_26 : decode cX5_goes 26 = .ok (.isub, 1) := by decide +kernel
theorem dX5_goes_27 : decode cX5_goes 27 = .ok (.invokevirtual 161, 3) := by decide +kernel
theorem dX5_goes_30 : decode cX5_goes 30 = .ok (.istore_n 3, 1) := by decide +kernel
theorem dX5_goes_31 : decode cX5_goes 31 = .ok (.iload_n 2, 1) := by decide +kernel
theorem dX5_goes_32 : decode cX5_goes 32 = .ok (.ifCond .ne 36, 3) := by decide +kernel
theorem dX5_goes_35 : decode cX5_goes 35 = .ok (.iload_n 3, 1) := by decide +kernel
theorem dX5_goes_36 : decode cX5_goes 36 = .ok (.ifCond .ne 32, 3) := by decide +kernel
theorem dX5_goes_39 : decode cX5_goes 39 = .ok (.aload_n 0, 1) := by decide +kernel
theorem dX5_goes_40 : decode cX5_goes 40 = .ok (.getfield 65, 3) := by decide +kernel
theorem dX5_goes_43 : decode cX5_goes 43 = .ok (.iload_n 1, 1) := by decide +kernel
theorem dX5_goes_44 : decode cX5_goes 44 = .ok (.caload, 1) := by decide +kernel
theorem dX5_goes_45 : decode cX5_goes 45 = .ok (.bipush 111, 2) := by decide +kernel
theorem dX5_goes_47 : decode cX5_goes 47 = .ok (.if_icmp .eq 4, 3) := by decide +kernel
theorem dX5_goes_50 : decode cX5_goes 50 = .ok (.return_, 1) := by decide +kernel
theorem dX5_goes_51 : decode cX5_goes 51 = .ok (.aload_n 0, 1) := by decide +kernel
theorem dX5_goes_52 : decode cX5_goes 52 = .ok (.getfield 65, 3) := by decide +kernel
theorem dX5_goes_55 : decode cX5_goes 55 = .ok (.iload_n 1, 1) := by decide +kernel
theorem dX5_goes_56 : decode cX5_goes 56 = .ok (.bipush 99, 2) := by decide +kernel
theorem dX5_goes_58 : decode cX5_goes 58 = .ok (.castore, 1) := by decide +kernel
theorem dX5_goes_59 : decode cX5_goes 59 = .ok (.aload_n 0, 1) := by decide +kernel
theorem dX5_goes_60 : decode cX5_goes 60 = .ok (.getfield 62, 3) := by decide +kernel
theorem dX5_goes_63 : decode cX5_goes 63 = .ok (.iload_n 1, 1) := by decide +kernel
theorem dX5_goes_64 : decode cX5_goes 64 = .ok (.bipush 20, 2) := by decide +kernel
theorem dX5_goes_66 : decode cX5_goes 66 = .ok (.iastore, 1) := by decide +kernel
theorem dX5_goes_67 : decode cX5_goes 67 = .ok (.return_, 1) := by decide +kernel
theorem dX5_goes_68 : decode cX5_goes 68 = .ok (.aload_n 0, 1) := by decide +kernel
theorem dX5_goes_69 : decode cX5_goes 69 = .ok (.getfield 68, 3) := by decide +kernel
theorem dX5_goes_72 : decode cX5_goes 72 = .ok (.iload_n 1, 1) := by decide +kernel
theorem dX5_goes_73 : decode cX5_goes 73 = .ok (.aload_n 0, 1) := by decide +kernel
theorem dX5_goes_74 : decode cX5_goes 74 = .ok (.getfield 68, 3) := by decide +kernel
theorem dX5_goes_77 : decode cX5_goes 77 = .ok (.iload_n 1, 1) := by decide +kernel
theorem dX5_goes_78 : decode cX5_goes 78 = .ok (.baload, 1) := by decide +kernel
theorem dX5_goes_79 : decode cX5_goes 79 = .ok (.ifCond .eq 7, 3) := by decide +kernel
theorem dX5_goes_82 : decode cX5_goes 82 = .ok (.iload_n 2, 1) := by decide +kernel
theorem dX5_goes_83 : decode cX5_goes 83 = .ok (.goto 12, 3) := by decide +kernel
theorem dX5_goes_86 : decode cX5_goes 86 = .ok (.iload_n 3, 1) := by decide +kernel
theorem dX5_goes_87 : decode cX5_goes 87 = .ok (.ifCond .ne 7, 3) := by decide +kernel
theorem dX5_goes_90 : decode cX5_goes 90 = .ok (.iconst 1, 1) := by decide +kernel
theorem dX5_goes_91 : decode cX5_goes 91 = .ok (.goto 4, 3) := by decide +kernel
theorem dX5_goes_94 : decode cX5_goes 94 = .ok (.iconst 0, 1) := by decide +kernel
theorem dX5_goes_95 : decode cX5_goes 95 = .ok (.bastore, 1) := by decide +kernel
theorem dX5_goes_96 : decode cX5_goes 96 = .ok (.aload_n 0, 1) := by decide +kernel
theorem dX5_goes_97 : decode cX5_goes 97 = .ok (.getfield 59, 3) := by decide +kernel
theorem dX5_goes_100 : decode cX5_goes 100 = .ok (.iload_n 1, 1) := by decide +kernel
theorem dX5_goes_101 : decode cX5_goes 101 = .ok (.dup2, 1) := by decide +kernel
theorem dX5_goes_102 : decode cX5_goes 102 = .ok (.iaload, 1) := by decide +kernel
theorem dX5_goes_103 : decode cX5_goes 103 = .ok (.aload_n 0, 1) := by decide +kernel
theorem dX5_goes_104 : decode cX5_goes 104 = .ok (.getfield 68, 3) := by decide +kernel
theorem dX5_goes_107 : decode cX5_goes 107 = .ok (.iload_n 1, 1) := by decide +kernel
theorem dX5_goes_108 : decode cX5_goes 108 = .ok (.baload, 1) := by decide +kernel
theorem dX5_goes_109 : decode cX5_goes 109 = .ok (.ifCond .eq 7, 3) := by decide +kernel
theorem dX5_goes_112 : decode cX5_goes 112 = .ok (.iconst 1, 1) := by decide +kernel
theorem dX5_goes_113 : decode cX5_goes 113 = .ok (.goto 4, 3) := by decide +kernel
theorem dX5_goes_116 : decode cX5_goes 116 = .ok (.iconst (-1), 1) := by decide +kernel
theorem dX5_goes_117 : decode cX5_goes 117 = .ok (.iadd, 1) := by decide +kernel
theorem dX5_goes_118 : decode cX5_goes 118 = .ok (.iastore, 1) := by decide +kernel
theorem dX5_goes_119 : decode cX5_goes 119 = .ok (.return_, 1) := by decide +kernel
theorem dX5_works_0 : decode cX5_works 0 = .ok (.aload_n 0, 1) := by decide +kernel
theorem dX5_works_1 : decode cX5_works 1 = .ok (.getfield 65, 3) := by decide +kernel
theorem dX5_works_4 : decode cX5_works 4 = .ok (.iload_n 1, 1) := by decide +kernel
theorem dX5_works_5 : decode cX5_works 5 = .ok (.caload, 1) := by decide +kernel
theorem dX5_works_6 : decode cX5_works 6 = .ok (.bipush 99, 2) := by decide +kernel
theorem dX5_works_8 : decode cX5_works 8 = .ok (.if_icmp .ne 33, 3) := by decide +kernel
theorem dX5_works_11 : decode cX5_works 11 = .ok (.aload_n 0, 1) := by decide +kernel
theorem dX5_works_12 : decode cX5_works 12 = .ok (.getfield 62, 3) := by decide +kernel
theorem dX5_works_15 : decode cX5_works 15 = .ok (.iload_n 1, 1) := by decide +kernel
theorem dX5_works_16 : decode cX5_works 16 = .ok (.dup2, 1) := by decide +kernel
theorem dX5_works_17 : decode cX5_works 17 = .ok (.iaload, 1) := by decide +kernel
theorem dX5_works_18 : decode cX5_works 18 = .ok (.iconst 1, 1) := by decide +kernel
theorem dX5_works_19 : decode cX5_works 19 = .ok (.isub, 1) := by decide +kernel
theorem dX5_works_20 : decode cX5_works 20 = .ok (.iastore, 1) := by decide +kernel
theorem dX5_works_21 : decode cX5_works 21 = .ok (.aload_n 0, 1) := by decide +kernel
theorem dX5_works_22 : decode cX5_works 22 = .ok (.getfield 62, 3) := by decide +kernel
theorem dX5_works_25 : decode cX5_works 25 = .ok (.iload_n 1, 1) := by decide +kernel
theorem dX5_works_26 : decode cX5_works 26 = .ok (.iaload, 1) := by decide +kernel
theorem dX5_works_27 : decode cX5_works 27 = .ok (.ifCond .ne 40, 3) := by decide +kernel
theorem dX5_works_30 : decode cX5_works 30 = .ok (.aload_n 0, 1) := by decide +kernel
theorem dX5_works_31 : decode cX5_works 31 = .ok (.getfield 65, 3) := by decide +kernel
theorem dX5_works_34 : decode cX5_works 34 = .ok (.iload_n 1, 1) := by decide +kernel
theorem dX5_works_35 : decode cX5_works 35 = .ok (.bipush 115, 2) := by decide +kernel
theorem dX5_works_37 : decode cX5_works 37 = .ok (.castore, 1) := by decide +kernel
theorem dX5_works_38 : decode cX5_works 38 = .ok (.goto 29, 3) := by decide +kernel
theorem dX5_works_41 : decode cX5_works 41 = .ok (.aload_n 0, 1) := by decide +kernel
theorem dX5_works_42 : decode cX5_works 42 = .ok (.iload_n 1, 1) := by decide +kernel
theorem dX5_works_43 : decode cX5_works 43 = .ok (.invokevirtual 164, 3) := by decide +kernel
theorem dX5_works_46 : decode cX5_works 46 = .ok (.ifCond .eq 16, 3) := by decide +kernel
theorem dX5_works_49 : decode cX5_works 49 = .ok (.aload_n 0, 1) := by decide +kernel
theorem dX5_works_50 : decode cX5_works 50 = .ok (.dup, 1) := by decide +kernel
theorem dX5_works_51 : decode cX5_works 51 = .ok (.getfield 166, 3) := by decide +kernel
theorem dX5_works_54 : decode cX5_works 54 = .ok (.iconst 1, 1) := by decide +kernel
theorem dX5_works_55 : decode cX5_works 55 = .ok (.iadd, 1) := by decide +kernel
theorem dX5_works_56 : decode cX5_works 56 = .ok (.putfield 166, 3) := by decide +kernel
theorem dX5_works_59 : decode cX5_works 59 = .ok (.goto 8, 3) := by decide +kernel
theorem dX5_works_62 : decode cX5_works 62 = .ok (.aload_n 0, 1) := by decide +kernel
theorem dX5_works_63 : decode cX5_works 63 = .ok (.iload_n 1, 1) := by decide +kernel
theorem dX5_works_64 : decode cX5_works 64 = .ok (.invokevirtual 169, 3) := by decide +kernel
theorem dX5_works_67 : decode cX5_works 67 = .ok (.return_, 1) := by decide +kernel
theorem dX5_isWaiting_0 : decode cX5_isWaiting 0 = .ok (.iconst 0, 1) := by decide +kernel
theorem dX5_isWaiting_1 : decode cX5_isWaiting 1 = .ok (.istore_n 2, 1) := by decide +kernel
theorem dX5_isWaiting_2 : decode cX5_isWaiting 2 = .ok (.iload_n 2, 1) := by decide +kernel
theorem dX5_isWaiting_3 : decode cX5_isWaiting 3 = .ok (.aload_n 0, 1) := by decide +kernel
theorem dX5_isWaiting_4 : decode cX5_isWaiting 4 = .ok (.getfield 74, 3) := by decide +kernel
theorem dX5_isWaiting_7 : decode cX5_isWaiting 7 = .ok (.if_icmp .ge 32, 3) := by decide +kernel
theorem dX5_isWaiting_10 : decode cX5_isWaiting 10 = .ok (.aload_n 0, 1) := by decide +kernel
theorem dX5_isWaiting_11 : decode cX5_isWaiting 11 = .ok (.getfield 52, 3) := by decide +kernel
theorem dX5_isWaiting_14 : decode cX5_isWaiting 14 = .ok (.iload_n 2, 1) := by decide +kernel
theorem dX5_isWaiting_15 : decode cX5_isWaiting 15 = .ok (.caload, 1) := by decide +kernel
theorem dX5_isWaiting_16 : decode cX5_isWaiting 16 = .ok (.bipush 119, 2) := by decide +kernel
theorem dX5_isWaiting_18 : decode cX5_isWaiting 18 = .ok (.if_icmp .ne 15, 3) := by decide +kernel
theorem dX5_isWaiting_21 : decode cX5_isWaiting 21 = .ok (.aload_n 0, 1) := by decide +kernel
theorem dX5_isWaiting_22 : decode cX5_isWaiting 22 = .ok (.getfield 37, 3) := by decide +kernel
theorem dX5_isWaiting_25 : decode cX5_isWaiting 25 = .ok (.iload_n 2, 1) := by decide +kernel
theorem dX5_isWaiting_26 : decode cX5_isWaiting 26 = .ok (.iaload, 1) := by decide +kernel
theorem dX5_isWaiting_27 : decode cX5_isWaiting 27 = .ok (.iload_n 1, 1) := by decide +kernel
theorem dX5_isWaiting_28 : decode cX5_isWaiting 28 = .ok (.if_icmp .ne 5, 3) := by decide +kernel
theorem dX5_isWaiting_31 : decode cX5_isWaiting 31 = .ok (.iconst 1, 1) := by decide +kernel
theorem dX5_isWaiting_32 : decode cX5_isWaiting 32 = .ok (.ireturn, 1) := by decide +kernel
theorem dX5_isWaiting_33 : decode cX5_isWaiting 33 = .ok (.iinc 2 1, 3) := by decide +kernel
theorem dX5_isWaiting_36 : decode cX5_isWaiting 36 = .ok (.goto (-34), 3) := by decide +kernel
theorem dX5_isWaiting_39 : decode cX5_isWaiting 39 = .ok (.iconst 0, 1) := by decide +kernel
theorem dX5_isWaiting_40 : decode cX5_isWaiting 40 = .ok (.ireturn, 1) := by decide +kernel
theorem dX5_turnNow_0 : decode cX5_turnNow 0 = .ok (.iconst 0, 1) := by decide +kernel
theorem dX5_turnNow_1 : decode cX5_turnNow 1 = .ok (.istore_n 1, 1) := by decide +kernel
theorem dX5_turnNow_2 : decode cX5_turnNow 2 = .ok (.iload_n 1, 1) := by decide +kernel
theorem dX5_turnNow_3 : decode cX5_turnNow 3 = .ok (.bipush 10, 2) := by decide +kernel
theorem dX5_turnNow_5 : decode cX5_turnNow 5 = .ok (.if_icmp .ge 49, 3) := by decide +kernel
theorem dX5_turnNow_8 : decode cX5_turnNow 8 = .ok (.aload_n 0, 1) := by decide +kernel
theorem dX5_turnNow_9 : decode cX5_turnNow 9 = .ok (.aload_n 0, 1) := by decide +kernel
theorem dX5_turnNow_10 : decode cX5_turnNow 10 = .ok (.getfield 172, 3) := by decide +kernel
theorem dX5_turnNow_13 : decode cX5_turnNow 13 = .ok (.iload_n 1, 1) := by decide +kernel
theorem dX5_turnNow_14 : decode cX5_turnNow 14 = .ok (.iadd, 1) := by decide +kernel
theorem dX5_turnNow_15 : decode cX5_turnNow 15 = .ok (.invokevirtual 175, 3) := by decide +kernel
theorem dX5_turnNow_18 : decode cX5_turnNow 18 = .ok (.ifCond .eq 10, 3) := by decide +kernel
theorem dX5_turnNow_21 : decode cX5_turnNow 21 = .ok (.aload_n 0, 1) := by decide +kernel
theorem dX5_turnNow_22 : decode cX5_turnNow 22 = .ok (.getfield 172, 3) := by decide +kernel
theorem dX5_turnNow_25 : decode cX5_turnNow 25 = .ok (.iload_n 1, 1) := by decide +kernel
theorem dX5_turnNow_26 : decode cX5_turnNow 26 = .ok (.iadd, 1) := by decide +kernel
theorem dX5_turnNow_27 : decode cX5_turnNow 27 = .ok (.ireturn, 1) := by decide +kernel
theorem dX5_turnNow_28 : decode cX5_turnNow 28 = .ok (.aload_n 0, 1) := by decide +kernel
theorem dX5_turnNow_29 : decode cX5_turnNow 29 = .ok (.aload_n 0, 1) := by decide +kernel
theorem dX5_turnNow_30 : decode cX5_turnNow 30 = .ok (.getfield 172, 3) := by decide +kernel
theorem dX5_turnNow_33 : decode cX5_turnNow 33 = .ok (.iload_n 1, 1) := by decide +kernel
theorem dX5_turnNow_34 : decode cX5_turnNow 34 = .ok (.isub, 1) := by decide +kernel
theorem dX5_turnNow_35 : decode cX5_turnNow 35 = .ok (.invokevirtual 175, 3) := by decide +kernel
theorem dX5_turnNow_38 : decode cX5_turnNow 38 = .ok (.ifCond .eq 10, 3) := by decide +kernel
theorem dX5_turnNow_41 : decode cX5_turnNow 41 = .ok (.aload_n 0, 1) := by decide +kernel
theorem dX5_turnNow_42 : decode cX5_turnNow 42 = .ok (.getfield 172, 3) := by decide +kernel
theorem dX5_turnNow_45 : decode cX5_turnNow 45 = .ok (.iload_n 1, 1) := by decide +kernel
theorem dX5_turnNow_46 : decode cX5_turnNow 46 = .ok (.isub, 1) := by decide +kernel
theorem dX5_turnNow_47 : decode cX5_turnNow 47 = .ok (.ireturn, 1) := by decide +kernel
theorem dX5_turnNow_48 : decode cX5_turnNow 48 = .ok (.iinc 1 1, 3) := by decide +kernel
theorem dX5_turnNow_51 : decode cX5_turnNow 51 = .ok (.goto (-49), 3) := by decide +kernel
theorem dX5_turnNow_54 : decode cX5_turnNow 54 = .ok (.iconst (-1), 1) := by decide +kernel
theorem dX5_turnNow_55 : decode cX5_turnNow 55 = .ok (.ireturn, 1) := by decide +kernel
theorem dX5_outMany_0 : decode cX5_outMany 0 = .ok (.iconst 0, 1) := by decide +kernel
theorem dX5_outMany_1 : decode cX5_outMany 1 = .ok (.istore_n 1, 1) := by decide +kernel
theorem dX5_outMany_2 : decode cX5_outMany 2 = .ok (.iconst 0, 1) := by decide +kernel
theorem dX5_outMany_3 : decode cX5_outMany 3 = .ok (.istore_n 2, 1) := by decide +kernel
theorem dX5_outMany_4 : decode cX5_outMany 4 = .ok (.iload_n 2, 1) := by decide +kernel
theorem dX5_outMany_5 : decode cX5_outMany 5 = .ok (.aload_n 0, 1) := by decide +kernel
theorem dX5_outMany_6 : decode cX5_outMany 6 = .ok (.getfield 74, 3) := by decide +kernel
theorem dX5_outMany_9 : decode cX5_outMany 9 = .ok (.if_icmp .ge 28, 3) := by decide +kernel
theorem dX5_outMany_12 : decode cX5_outMany 12 = .ok (.iload_n 1, 1) := by decide +kernel
theorem dX5_outMany_13 : decode cX5_outMany 13 = .ok (.aload_n 0, 1) := by decide +kernel
theorem dX5_outMany_14 : decode cX5_outMany 14 = .ok (.getfield 52, 3) := by decide +kernel
theorem dX5_outMany_17 : decode cX5_outMany 17 = .ok (.iload_n 2, 1) := by decide +kernel
theorem dX5_outMany_18 : decode cX5_outMany 18 = .ok (.caload, 1) := by decide +kernel
theorem dX5_outMany_19 : decode cX5_outMany 19 = .ok (.bipush 100, 2) := by decide +kernel
theorem dX5_outMany_21 : decode cX5_outMany 21 = .ok (.if_icmp .ne 7, 3) := by decide +kernel
theorem dX5_outMany_24 : decode cX5_outMany 24 = .ok (.iconst 0, 1) := by decide +kernel
theorem dX5_outMany_25 : decode cX5_outMany 25 = .ok (.goto 4, 3) := by decide +kernel
theorem dX5_outMany_28 : decode cX5_outMany 28 = .ok (.iconst 1, 1) := by decide +kernel
theorem dX5_outMany_29 : decode cX5_outMany 29 = .ok (.iadd, 1) := by decide +kernel
theorem dX5_outMany_30 : decode cX5_outMany 30 = .ok (.istore_n 1, 1) := by decide +kernel
theorem dX5_outMany_31 : decode cX5_outMany 31 = .ok (.iinc 2 1, 3) := by decide +kernel
theorem dX5_outMany_34 : decode cX5_outMany 34 = .ok (.goto (-30), 3) := by decide +kernel
theorem dX5_outMany_37 : decode cX5_outMany 37 = .ok (.iload_n 1, 1) := by decide +kernel
theorem dX5_outMany_38 : decode cX5_outMany 38 = .ok (.ireturn, 1) := by decide +kernel
theorem dX5_passesOne_0 : decode cX5_passesOne 0 = .ok (.aload_n 0, 1) := by decide +kernel
theorem dX5_passesOne_1 : decode cX5_passesOne 1 = .ok (.getfield 119, 3) := by decide +kernel
theorem dX5_passesOne_4 : decode cX5_passesOne 4 = .ok (.ifCond .eq 10, 3) := by decide +kernel
theorem dX5_passesOne_7 : decode cX5_passesOne 7 = .ok (.aload_n 0, 1) := by decide +kernel
theorem dX5_passesOne_8 : decode cX5_passesOne 8 = .ok (.invokevirtual 178, 3) := by decide +kernel
theorem dX5_passesOne_11 : decode cX5_passesOne 11 = .ok (.goto 4, 3) := by decide +kernel
theorem dX5_passesOne_14 : decode cX5_passesOne 14 = .ok (.iconst (-1), 1) := by decide +kernel
theorem dX5_passesOne_15 : decode cX5_passesOne 15 = .ok (.istore_n 1, 1) := by decide +kernel
theorem dX5_passesOne_16 : decode cX5_passesOne 16 = .ok (.aload_n 0, 1) := by decide +kernel
theorem dX5_passesOne_17 : decode cX5_passesOne 17 = .ok (.getfield 119, 3) := by decide +kernel
theorem dX5_passesOne_20 : decode cX5_passesOne 20 = .ok (.ifCond .eq 9, 3) := by decide +kernel
theorem dX5_passesOne_23 : decode cX5_passesOne 23 = .ok (.aload_n 0, 1) := by decide +kernel
theorem dX5_passesOne_24 : decode cX5_passesOne 24 = .ok (.iconst (-1), 1) := by decide +kernel
theorem dX5_passesOne_25 : decode cX5_passesOne 25 = .ok (.invokevirtual 142, 3) := by decide +kernel
theorem dX5_passesOne_28 : decode cX5_passesOne 28 = .ok (.pop, 1) := by decide +kernel
theorem dX5_passesOne_29 : decode cX5_passesOne 29 = .ok (.iconst 0, 1) := by decide +kernel
theorem dX5_passesOne_30 : decode cX5_passesOne 30 = .ok (.istore_n 2, 1) := by decide +kernel
theorem dX5_passesOne_31 : decode cX5_passesOne 31 = .ok (.iload_n 2, 1) := by decide +kernel
theorem dX5_passesOne_32 : decode cX5_passesOne 32 = .ok (.aload_n 0, 1) := by decide +kernel
theorem dX5_passesOne_33 : decode cX5_passesOne 33 = .ok (.getfield 74, 3) := by decide +kernel
theorem dX5_passesOne_36 : decode cX5_passesOne 36 = .ok (.if_icmp .ge 51, 3) := by decide +kernel
theorem dX5_passesOne_39 : decode cX5_passesOne 39 = .ok (.aload_n 0, 1) := by decide +kernel
theorem dX5_passesOne_40 : decode cX5_passesOne 40 = .ok (.getfield 52, 3) := by decide +kernel
theorem dX5_passesOne_43 : decode cX5_passesOne 43 = .ok (.iload_n 2, 1) := by decide +kernel
theorem dX5_passesOne_44 : decode cX5_passesOne 44 = .ok (.caload, 1) := by decide +kernel
theorem dX5_passesOne_45 : decode cX5_passesOne 45 = .ok (.bipush 119, 2) := by decide +kernel
theorem dX5_passesOne_47 : decode cX5_passesOne 47 = .ok (.if_icmp .ne 34, 3) := by decide +kernel
theorem dX5_passesOne_50 : decode cX5_passesOne 50 = .ok (.aload_n 0, 1) := by decide +kernel
theorem dX5_passesOne_51 : decode cX5_passesOne 51 = .ok (.getfield 43, 3) := by decide +kernel
theorem dX5_passesOne_54 : decode cX5_passesOne 54 = .ok (.iload_n 2, 1) := by decide +kernel
theorem dX5_passesOne_55 : decode cX5_passesOne 55 = .ok (.iaload, 1) := by decide +kernel
theorem dX5_passesOne_56 : decode cX5_passesOne 56 = .ok (.ifCond .ge 25, 3) := by decide +kernel
theorem dX5_passesOne_59 : decode cX5_passesOne 59 = .ok (.aload_n 0, 1) := by decide +kernel
theorem dX5_passesOne_60 : decode cX5_passesOne 60 = .ok (.getfield 119, 3) := by decide +kernel
theorem dX5_passesOne_63 : decode cX5_passesOne 63 = .ok (.ifCond .eq 13, 3) := by decide +kernel
theorem dX5_passesOne_66 : decode cX5_passesOne 66 = .ok (.aload_n 0, 1) := by decide +kernel
theorem dX5_passesOne_67 : decode cX5_passesOne 67 = .ok (.getfield 37, 3) := by decide +kernel
theorem dX5_passesOne_70 : decode cX5_passesOne 70 = .ok (.iload_n 2, 1) := by decide +kernel
theorem dX5_passesOne_71 : decode cX5_passesOne 71 = .ok (.iaload, 1) := by decide +kernel
theorem dX5_passesOne_72 : decode cX5_passesOne 72 = .ok (.iload_n 1, 1) := by decide +kernel
theorem dX5_passesOne_73 : decode cX5_passesOne 73 = .ok (.if_icmp .ne 8, 3) := by decide +kernel
theorem dX5_passesOne_76 : decode cX5_passesOne 76 = .ok (.aload_n 0, 1) := by decide +kernel
theorem dX5_passesOne_77 : decode cX5_passesOne 77 = .ok (.iload_n 2, 1) := by decide +kernel
theorem dX5_passesOne_78 : decode cX5_passesOne 78 = .ok (.invokevirtual 123, 3) := by decide +kernel
theorem dX5_passesOne_81 : decode cX5_passesOne 81 = .ok (.iinc 2 1, 3) := by decide +kernel
theorem dX5_passesOne_84 : decode cX5_passesOne 84 = .ok (.goto (-53), 3) := by decide +kernel
theorem dX5_passesOne_87 : decode cX5_passesOne 87 = .ok (.iconst 0, 1) := by decide +kernel
theorem dX5_passesOne_88 : decode cX5_passesOne 88 = .ok (.istore_n 2, 1) := by decide +kernel
theorem dX5_passesOne_89 : decode cX5_passesOne 89 = .ok (.iload_n 2, 1) := by decide +kernel
theorem dX5_passesOne_90 : decode cX5_passesOne 90 = .ok (.aload_n 0, 1) := by decide +kernel
theorem dX5_passesOne_91 : decode cX5_passesOne 91 = .ok (.getfield 77, 3) := by decide +kernel
theorem dX5_passesOne_94 : decode cX5_passesOne 94 = .ok (.if_icmp .ge 14, 3) := by decide +kernel
theorem dX5_passesOne_97 : decode cX5_passesOne 97 = .ok (.aload_n 0, 1) := by decide +kernel
theorem dX5_passesOne_98 : decode cX5_passesOne 98 = .ok (.iload_n 2, 1) := by decide +kernel
theorem dX5_passesOne_99 : decode cX5_passesOne 99 = .ok (.invokevirtual 182, 3) := by decide +kernel
theorem dX5_passesOne_102 : decode cX5_passesOne 102 = .ok (.iinc 2 1, 3) := by decide +kernel
theorem dX5_passesOne_105 : decode cX5_passesOne 105 = .ok (.goto (-16), 3) := by decide +kernel
theorem dX5_passesOne_108 : decode cX5_passesOne 108 = .ok (.aload_n 0, 1) := by decide +kernel
theorem dX5_passesOne_109 : decode cX5_passesOne 109 = .ok (.dup, 1) := by decide +kernel
theorem dX5_passesOne_110 : decode cX5_passesOne 110 = .ok (.getfield 91, 3) := by decide +kernel
theorem dX5_passesOne_113 : decode cX5_passesOne 113 = .ok (.iconst 1, 1) := by decide +kernel
theorem dX5_passesOne_114 : decode cX5_passesOne 114 = .ok (.iadd, 1) := by decide +kernel
theorem dX5_passesOne_115 : decode cX5_passesOne 115 = .ok (.putfield 91, 3) := by decide +kernel
theorem dX5_passesOne_118 : decode cX5_passesOne 118 = .ok (.aload_n 0, 1) := by decide +kernel
theorem dX5_passesOne_119 : decode cX5_passesOne 119 = .ok (.aload_n 0, 1) := by decide +kernel
theorem dX5_passesOne_120 : decode cX5_passesOne 120 = .ok (.getfield 119, 3) := by decide +kernel
theorem dX5_passesOne_123 : decode cX5_passesOne 123 = .ok (.ifCond .eq 14, 3) := by decide +kernel
theorem dX5_passesOne_126 : decode cX5_passesOne 126 = .ok (.aload_n 0, 1) := by decide +kernel
theorem dX5_passesOne_127 : decode cX5_passesOne 127 = .ok (.invokevirtual 185, 3) := by decide +kernel
theorem dX5_passesOne_130 : decode cX5_passesOne 130 = .ok (.ifCond .le 7, 3) := by decide +kernel
theorem dX5_passesOne_133 : decode cX5_passesOne 133 = .ok (.iconst 1, 1) := by decide +kernel
theorem dX5_passesOne_134 : decode cX5_passesOne 134 = .ok (.goto 4, 3) := by decide +kernel
theorem dX5_passesOne_137 : decode cX5_passesOne 137 = .ok (.iconst 0, 1) := by decide +kernel
theorem dX5_passesOne_138 : decode cX5_passesOne 138 = .ok (.putfield 119, 3) := by decide +kernel
theorem dX5_passesOne_141 : decode cX5_passesOne 141 = .ok (.return_, 1) := by decide +kernel
theorem dX5_pass_0 : decode cX5_pass 0 = .ok (.aload_n 0, 1) := by decide +kernel
theorem dX5_pass_1 : decode cX5_pass 1 = .ok (.iconst 0, 1) := by decide +kernel
theorem dX5_pass_2 : decode cX5_pass 2 = .ok (.putfield 1, 3) := by decide +kernel
theorem dX5_pass_5 : decode cX5_pass 5 = .ok (.iload_n 1, 1) := by decide +kernel
theorem dX5_pass_6 : decode cX5_pass 6 = .ok (.iconst 1, 1) := by decide +kernel
theorem dX5_pass_7 : decode cX5_pass 7 = .ok (.bipush 100, 2) := by decide +kernel
theorem dX5_pass_9 : decode cX5_pass 9 = .ok (.invokestatic 7, 3) := by decide +kernel
theorem dX5_pass_12 : decode cX5_pass 12 = .ok (.ifCond .ne 9, 3) := by decide +kernel
theorem dX5_pass_15 : decode cX5_pass 15 = .ok (.aload_n 0, 1) := by decide +kernel
theorem dX5_pass_16 : decode cX5_pass 16 = .ok (.iconst 1, 1) := by decide +kernel
theorem dX5_pass_17 : decode cX5_pass 17 = .ok (.invokevirtual 80, 3) := by decide +kernel
theorem dX5_pass_20 : decode cX5_pass 20 = .ok (.ireturn, 1) := by decide +kernel
theorem dX5_pass_21 : decode cX5_pass 21 = .ok (.aload_n 0, 1) := by decide +kernel
theorem dX5_pass_22 : decode cX5_pass 22 = .ok (.getfield 113, 3) := by decide +kernel
theorem dX5_pass_25 : decode cX5_pass 25 = .ok (.istore_n 2, 1) := by decide +kernel
theorem dX5_pass_26 : decode cX5_pass 26 = .ok (.iconst 0, 1) := by decide +kernel
theorem dX5_pass_27 : decode cX5_pass 27 = .ok (.istore_n 3, 1) := by decide +kernel
theorem dX5_pass_28 : decode cX5_pass 28 = .ok (.iload_n 3, 1) := by decide +kernel
theorem dX5_pass_29 : decode cX5_pass 29 = .ok (.iload_n 1, 1) := by decide +kernel
theorem dX5_pass_30 : decode cX5_pass 30 = .ok (.if_icmp .ge 13, 3) := by decide +kernel
theorem dX5_pass_33 : decode cX5_pass 33 = .ok (.aload_n 0, 1) := by decide +kernel
theorem dX5_pass_34 : decode cX5_pass 34 = .ok (.invokevirtual 188, 3) := by decide +kernel
theorem dX5_pass_37 : decode cX5_pass 37 = .ok (.iinc 3 1, 3) := by decide +kernel
theorem dX5_pass_40 : decode cX5_pass 40 = .ok (.goto (-12), 3) := by decide +kernel
theorem dX5_pass_43 : decode cX5_pass 43 = .ok (.aload_n 0, 1) := by decide +kernel
theorem dX5_pass_44 : decode cX5_pass 44 = .ok (.getfield 113, 3) := by decide +kernel
theorem dX5_pass_47 : decode cX5_pass 47 = .ok (.iload_n 2, 1) := by decide +kernel
theorem dX5_pass_48 : decode cX5_pass 48 = .ok (.isub, 1) := by decide +kernel
theorem dX5_pass_49 : decode cX5_pass 49 = .ok (.ireturn, 1) := by decide +kernel
theorem dX5_time_0 : decode cX5_time 0 = .ok (.aload_n 0, 1) := by decide +kernel
theorem dX5_time_1 : decode cX5_time 1 = .ok (.iconst 0, 1) := by decide +kernel
theorem dX5_time_2 : decode cX5_time 2 = .ok (.putfield 1, 3) := by decide +kernel
theorem dX5_time_5 : decode cX5_time 5 = .ok (.aload_n 0, 1) := by decide +kernel
theorem dX5_time_6 : decode cX5_time 6 = .ok (.getfield 91, 3) := by decide +kernel
theorem dX5_time_9 : decode cX5_time 9 = .ok (.ireturn, 1) := by decide +kernel
theorem dX5_alarm_0 : decode cX5_alarm 0 = .ok (.aload_n 0, 1) := by decide +kernel
theorem dX5_alarm_1 : decode cX5_alarm 1 = .ok (.iconst 0, 1) := by decide +kernel
theorem dX5_alarm_2 : decode cX5_alarm 2 = .ok (.putfield 1, 3) := by decide +kernel
theorem dX5_alarm_5 : decode cX5_alarm 5 = .ok (.iload_n 1, 1) := by decide +kernel
theorem dX5_alarm_6 : decode cX5_alarm 6 = .ok (.invokestatic 94, 3) := by decide +kernel
theorem dX5_alarm_9 : decode cX5_alarm 9 = .ok (.ifCond .ne 9, 3) := by decide +kernel
theorem dX5_alarm_12 : decode cX5_alarm 12 = .ok (.aload_n 0, 1) := by decide +kernel
theorem dX5_alarm_13 : decode cX5_alarm 13 = .ok (.iconst 1, 1) := by decide +kernel
theorem dX5_alarm_14 : decode cX5_alarm 14 = .ok (.invokevirtual 80, 3) := by decide +kernel
theorem dX5_alarm_17 : decode cX5_alarm 17 = .ok (.ireturn, 1) := by decide +kernel
theorem dX5_alarm_18 : decode cX5_alarm 18 = .ok (.aload_n 0, 1) := by decide +kernel
theorem dX5_alarm_19 : decode cX5_alarm 19 = .ok (.getfield 119, 3) := by decide +kernel
theorem dX5_alarm_22 : decode cX5_alarm 22 = .ok (.ifCond .ne 10, 3) := by decide +kernel
theorem dX5_alarm_25 : decode cX5_alarm 25 = .ok (.aload_n 0, 1) := by decide +kernel
theorem dX5_alarm_26 : decode cX5_alarm 26 = .ok (.invokevirtual 185, 3) := by decide +kernel
theorem dX5_alarm_29 : decode cX5_alarm 29 = .ok (.ifCond .ne 9, 3) := by decide +kernel
theorem dX5_alarm_32 : decode cX5_alarm 32 = .ok (.aload_n 0, 1) := by decide +kernel
theorem dX5_alarm_33 : decode cX5_alarm 33 = .ok (.iconst 2, 1) := by decide +kernel
theorem dX5_alarm_34 : decode cX5_alarm 34 = .ok (.invokevirtual 80, 3) := by decide +kernel
theorem dX5_alarm_37 : decode cX5_alarm 37 = .ok (.ireturn, 1) := by decide +kernel
theorem dX5_alarm_38 : decode cX5_alarm 38 = .ok (.aload_n 0, 1) := by decide +kernel
theorem dX5_alarm_39 : decode cX5_alarm 39 = .ok (.iconst 1, 1) := by decide +kernel
theorem dX5_alarm_40 : decode cX5_alarm 40 = .ok (.putfield 119, 3) := by decide +kernel
theorem dX5_alarm_43 : decode cX5_alarm 43 = .ok (.aload_n 0, 1) := by decide +kernel
theorem dX5_alarm_44 : decode cX5_alarm 44 = .ok (.iload_n 1, 1) := by decide +kernel
theorem dX5_alarm_45 : decode cX5_alarm 45 = .ok (.putfield 172, 3) := by decide +kernel
theorem dX5_alarm_48 : decode cX5_alarm 48 = .ok (.aload_n 0, 1) := by decide +kernel
theorem dX5_alarm_49 : decode cX5_alarm 49 = .ok (.iconst (-1), 1) := by decide +kernel
theorem dX5_alarm_50 : decode cX5_alarm 50 = .ok (.invokevirtual 142, 3) := by decide +kernel
theorem dX5_alarm_53 : decode cX5_alarm 53 = .ok (.pop, 1) := by decide +kernel
theorem dX5_alarm_54 : decode cX5_alarm 54 = .ok (.iconst 0, 1) := by decide +kernel
theorem dX5_alarm_55 : decode cX5_alarm 55 = .ok (.istore_n 2, 1) := by decide +kernel
theorem dX5_alarm_56 : decode cX5_alarm 56 = .ok (.iload_n 2, 1) := by decide +kernel
theorem dX5_alarm_57 : decode cX5_alarm 57 = .ok (.aload_n 0, 1) := by decide +kernel
theorem dX5_alarm_58 : decode cX5_alarm 58 = .ok (.getfield 74, 3) := by decide +kernel
theorem dX5_alarm_61 : decode cX5_alarm 61 = .ok (.if_icmp .ge 56, 3) := by decide +kernel
theorem dX5_alarm_64 : decode cX5_alarm 64 = .ok (.aload_n 0, 1) := by decide +kernel
theorem dX5_alarm_65 : decode cX5_alarm 65 = .ok (.getfield 52, 3) := by decide +kernel
theorem dX5_alarm_68 : decode cX5_alarm 68 = .ok (.iload_n 2, 1) := by decide +kernel
theorem dX5_alarm_69 : decode cX5_alarm 69 = .ok (.caload, 1) := by decide +kernel
theorem dX5_alarm_70 : decode cX5_alarm 70 = .ok (.bipush 100, 2) := by decide +kernel
theorem dX5_alarm_72 : decode cX5_alarm 72 = .ok (.if_icmp .ne 6, 3) := by decide +kernel
theorem dX5_alarm_75 : decode cX5_alarm 75 = .ok (.goto 36, 3) := by decide +kernel
theorem dX5_alarm_78 : decode cX5_alarm 78 = .ok (.aload_n 0, 1) := by decide +kernel
theorem dX5_alarm_79 : decode cX5_alarm 79 = .ok (.getfield 40, 3) := by decide +kernel
theorem dX5_alarm_82 : decode cX5_alarm 82 = .ok (.iload_n 2, 1) := by decide +kernel
theorem dX5_alarm_83 : decode cX5_alarm 83 = .ok (.iconst 0, 1) := by decide +kernel
theorem dX5_alarm_84 : decode cX5_alarm 84 = .ok (.iastore, 1) := by decide +kernel
theorem dX5_alarm_85 : decode cX5_alarm 85 = .ok (.aload_n 0, 1) := by decide +kernel
theorem dX5_alarm_86 : decode cX5_alarm 86 = .ok (.getfield 52, 3) := by decide +kernel
theorem dX5_alarm_89 : decode cX5_alarm 89 = .ok (.iload_n 2, 1) := by decide +kernel
theorem dX5_alarm_90 : decode cX5_alarm 90 = .ok (.caload, 1) := by decide +kernel
theorem dX5_alarm_91 : decode cX5_alarm 91 = .ok (.bipush 119, 2) := by decide +kernel
theorem dX5_alarm_93 : decode cX5_alarm 93 = .ok (.if_icmp .ne 18, 3) := by decide +kernel
theorem dX5_alarm_96 : decode cX5_alarm 96 = .ok (.aload_n 0, 1) := by decide +kernel
theorem dX5_alarm_97 : decode cX5_alarm 97 = .ok (.getfield 37, 3) := by decide +kernel
theorem dX5_alarm_100 : decode cX5_alarm 100 = .ok (.iload_n 2, 1) := by decide +kernel
theorem dX5_alarm_101 : decode cX5_alarm 101 = .ok (.iaload, 1) := by decide +kernel
theorem dX5_alarm_102 : decode cX5_alarm 102 = .ok (.ifCond .ne 9, 3) := by decide +kernel
theorem dX5_alarm_105 : decode cX5_alarm 105 = .ok (.aload_n 0, 1) := by decide +kernel
theorem dX5_alarm_106 : decode cX5_alarm 106 = .ok (.iload_n 2, 1) := by decide +kernel
theorem dX5_alarm_107 : decode cX5_alarm 107 = .ok (.iconst 0, 1) := by decide +kernel
theorem dX5_alarm_108 : decode cX5_alarm 108 = .ok (.invokevirtual 151, 3) := by decide +kernel
theorem dX5_alarm_111 : decode cX5_alarm 111 = .ok (.iinc 2 1, 3) := by decide +kernel
theorem dX5_alarm_114 : decode cX5_alarm 114 = .ok (.goto (-58), 3) := by decide +kernel
theorem dX5_alarm_117 : decode cX5_alarm 117 = .ok (.aload_n 0, 1) := by decide +kernel
theorem dX5_alarm_118 : decode cX5_alarm 118 = .ok (.invokevirtual 185, 3) := by decide +kernel
theorem dX5_alarm_121 : decode cX5_alarm 121 = .ok (.ireturn, 1) := by decide +kernel
theorem dX5_isAlarm_0 : decode cX5_isAlarm 0 = .ok (.aload_n 0, 1) := by decide +kernel
theorem dX5_isAlarm_1 : decode cX5_isAlarm 1 = .ok (.iconst 0, 1) := by decide +kernel
theorem dX5_isAlarm_2 : decode cX5_isAlarm 2 = .ok (.putfield 1, 3) := by decide +kernel
theorem dX5_isAlarm_5 : decode cX5_isAlarm 5 = .ok (.aload_n 0, 1) := by decide +kernel
theorem dX5_isAlarm_6 : decode cX5_isAlarm 6 = .ok (.getfield 119, 3) := by decide +kernel
theorem dX5_isAlarm_9 : decode cX5_isAlarm 9 = .ok (.ireturn, 1) := by decide +kernel
theorem dX5_turn_0 : decode cX5_turn 0 = .ok (.aload_n 0, 1) := by decide +kernel
theorem dX5_turn_1 : decode cX5_turn 1 = .ok (.iconst 0, 1) := by decide +kernel
theorem dX5_turn_2 : decode cX5_turn 2 = .ok (.putfield 1, 3) := by decide +kernel
theorem dX5_turn_5 : decode cX5_turn 5 = .ok (.aload_n 0, 1) := by decide +kernel
theorem dX5_turn_6 : decode cX5_turn 6 = .ok (.getfield 119, 3) := by decide +kernel
theorem dX5_turn_9 : decode cX5_turn 9 = .ok (.ifCond .eq 10, 3) := by decide +kernel
theorem dX5_turn_12 : decode cX5_turn 12 = .ok (.aload_n 0, 1) := by decide +kernel
theorem dX5_turn_13 : decode cX5_turn 13 = .ok (.invokevirtual 178, 3) := by decide +kernel
theorem dX5_turn_16 : decode cX5_turn 16 = .ok (.goto 4, 3) := by decide +kernel
theorem dX5_turn_19 : decode cX5_turn 19 = .ok (.iconst (-1), 1) := by decide +kernel
theorem dX5_turn_20 : decode cX5_turn 20 = .ok (.istore_n 1, 1) := by decide +kernel
theorem dX5_turn_21 : decode cX5_turn 21 = .ok (.iload_n 1, 1) := by decide +kernel
theorem dX5_turn_22 : decode cX5_turn 22 = .ok (.ifCond .ge 11, 3) := by decide +kernel
theorem dX5_turn_25 : decode cX5_turn 25 = .ok (.aload_n 0, 1) := by decide +kernel
theorem dX5_turn_26 : decode cX5_turn 26 = .ok (.iconst 1, 1) := by decide +kernel
theorem dX5_turn_27 : decode cX5_turn 27 = .ok (.invokevirtual 80, 3) := by decide +kernel
theorem dX5_turn_30 : decode cX5_turn 30 = .ok (.goto 4, 3) := by decide +kernel
theorem dX5_turn_33 : decode cX5_turn 33 = .ok (.iload_n 1, 1) := by decide +kernel
theorem dX5_turn_34 : decode cX5_turn 34 = .ok (.ireturn, 1) := by decide +kernel
theorem dX5_opened_0 : decode cX5_opened 0 = .ok (.aload_n 0, 1) := by decide +kernel
theorem dX5_opened_1 : decode cX5_opened 1 = .ok (.iconst 0, 1) := by decide +kernel
theorem dX5_opened_2 : decode cX5_opened 2 = .ok (.putfield 1, 3) := by decide +kernel
theorem dX5_opened_5 : decode cX5_opened 5 = .ok (.aload_n 0, 1) := by decide +kernel
theorem dX5_opened_6 : decode cX5_opened 6 = .ok (.getfield 166, 3) := by decide +kernel
theorem dX5_opened_9 : decode cX5_opened 9 = .ok (.ireturn, 1) := by decide +kernel
theorem dX5_refused_0 : decode cX5_refused 0 = .ok (.aload_n 0, 1) := by decide +kernel
theorem dX5_refused_1 : decode cX5_refused 1 = .ok (.iconst 0, 1) := by decide +kernel
theorem dX5_refused_2 : decode cX5_refused 2 = .ok (.putfield 1, 3) := by decide +kernel
theorem dX5_refused_5 : decode cX5_refused 5 = .ok (.aload_n 0, 1) := by decide +kernel
theorem dX5_refused_6 : decode cX5_refused 6 = .ok (.getfield 155, 3) := by decide +kernel
theorem dX5_refused_9 : decode cX5_refused 9 = .ok (.ireturn, 1) := by decide +kernel
theorem dX5_doneShare_0 : decode cX5_doneShare 0 = .ok (.aload_n 0, 1) := by decide +kernel
theorem dX5_doneShare_1 : decode cX5_doneShare 1 = .ok (.iconst 0, 1) := by decide +kernel
theorem dX5_doneShare_2 : decode cX5_doneShare 2 = .ok (.putfield 1, 3) := by decide +kernel
theorem dX5_doneShare_5 : decode cX5_doneShare 5 = .ok (.aload_n 0, 1) := by decide +kernel
theorem dX5_doneShare_6 : decode cX5_doneShare 6 = .ok (.getfield 74, 3) := by decide +kernel
theorem dX5_doneShare_9 : decode cX5_doneShare 9 = .ok (.ifCond .ne 12, 3) := by decide +kernel
theorem dX5_doneShare_12 : decode cX5_doneShare 12 = .ok (.aload_n 0, 1) := by decide +kernel
theorem dX5_doneShare_13 : decode cX5_doneShare 13 = .ok (.iconst 1, 1) := by decide +kernel
theorem dX5_doneShare_14 : decode cX5_doneShare 14 = .ok (.invokevirtual 80, 3) := by decide +kernel
theorem dX5_doneShare_17 : decode cX5_doneShare 17 = .ok (.i2f, 1) := by decide +kernel
theorem dX5_doneShare_18 : decode cX5_doneShare 18 = .ok (.goto 14, 3) := by decide +kernel
theorem dX5_doneShare_21 : decode cX5_doneShare 21 = .ok (.aload_n 0, 1) := by decide +kernel
theorem dX5_doneShare_22 : decode cX5_doneShare 22 = .ok (.getfield 113, 3) := by decide +kernel
theorem dX5_doneShare_25 : decode cX5_doneShare 25 = .ok (.i2f, 1) := by decide +kernel
theorem dX5_doneShare_26 : decode cX5_doneShare 26 = .ok (.aload_n 0, 1) := by decide +kernel
theorem dX5_doneShare_27 : decode cX5_doneShare 27 = .ok (.getfield 74, 3) := by decide +kernel
theorem dX5_doneShare_30 : decode cX5_doneShare 30 = .ok (.i2f, 1) := by decide +kernel
theorem dX5_doneShare_31 : decode cX5_doneShare 31 = .ok (.fdiv, 1) := by decide +kernel
theorem dX5_doneShare_32 : decode cX5_doneShare 32 = .ok (.freturn, 1) := by decide +kernel
theorem dX5_meanWait_0 : decode cX5_meanWait 0 = .ok (.aload_n 0, 1) := by decide +kernel
theorem dX5_meanWait_1 : decode cX5_meanWait 1 = .ok (.iconst 0, 1) := by decide +kernel
theorem dX5_meanWait_2 : decode cX5_meanWait 2 = .ok (.putfield 1, 3) := by decide +kernel
theorem dX5_meanWait_5 : decode cX5_meanWait 5 = .ok (.iconst 0, 1) := by decide +kernel
theorem dX5_meanWait_6 : decode cX5_meanWait 6 = .ok (.istore_n 1, 1) := by decide +kernel
theorem dX5_meanWait_7 : decode cX5_meanWait 7 = .ok (.iconst 0, 1) := by decide +kernel
theorem dX5_meanWait_8 : decode cX5_meanWait 8 = .ok (.istore_n 2, 1) := by decide +kernel
theorem dX5_meanWait_9 : decode cX5_meanWait 9 = .ok (.iload_n 2, 1) := by decide +kernel
theorem dX5_meanWait_10 : decode cX5_meanWait 10 = .ok (.aload_n 0, 1) := by decide +kernel
theorem dX5_meanWait_11 : decode cX5_meanWait 11 = .ok (.getfield 74, 3) := by decide +kernel
theorem dX5_meanWait_14 : decode cX5_meanWait 14 = .ok (.if_icmp .ge 17, 3) := by decide +kernel
theorem dX5_meanWait_17 : decode cX5_meanWait 17 = .ok (.iload_n 1, 1) := by decide +kernel
theorem dX5_meanWait_18 : decode cX5_meanWait 18 = .ok (.aload_n 0, 1) := by decide +kernel
theorem dX5_meanWait_19 : decode cX5_meanWait 19 = .ok (.iload_n 2, 1) := by decide +kernel
theorem dX5_meanWait_20 : decode cX5_meanWait 20 = .ok (.invokevirtual 133, 3) := by decide +kernel
theorem dX5_meanWait_23 : decode cX5_meanWait 23 = .ok (.iadd, 1) := by decide +kernel
theorem dX5_meanWait_24 : decode cX5_meanWait 24 = .ok (.istore_n 1, 1) := by decide +kernel
theorem dX5_meanWait_25 : decode cX5_meanWait 25 = .ok (.iinc 2 1, 3) := by decide +kernel
theorem dX5_meanWait_28 : decode cX5_meanWait 28 = .ok (.goto (-19), 3) := by decide +kernel
theorem dX5_meanWait_31 : decode cX5_meanWait 31 = .ok (.aload_n 0, 1) := by decide +kernel
theorem dX5_meanWait_32 : decode cX5_meanWait 32 = .ok (.getfield 74, 3) := by decide +kernel
theorem dX5_meanWait_35 : decode cX5_meanWait 35 = .ok (.ifCond .ne 12, 3) := by decide +kernel
theorem dX5_meanWait_38 : decode cX5_meanWait 38 = .ok (.aload_n 0, 1) := by decide +kernel
theorem dX5_meanWait_39 : decode cX5_meanWait 39 = .ok (.iconst 1, 1) := by decide +kernel
theorem dX5_meanWait_40 : decode cX5_meanWait 40 = .ok (.invokevirtual 80, 3) := by decide +kernel
theorem dX5_meanWait_43 : decode cX5_meanWait 43 = .ok (.i2d, 1) := by decide +kernel
theorem dX5_meanWait_44 : decode cX5_meanWait 44 = .ok (.goto 11, 3) := by decide +kernel
theorem dX5_meanWait_47 : decode cX5_meanWait 47 = .ok (.iload_n 1, 1) := by decide +kernel
theorem dX5_meanWait_48 : decode cX5_meanWait 48 = .ok (.i2d, 1) := by decide +kernel
theorem dX5_meanWait_49 : decode cX5_meanWait 49 = .ok (.aload_n 0, 1) := by decide +kernel
theorem dX5_meanWait_50 : decode cX5_meanWait 50 = .ok (.getfield 74, 3) := by decide +kernel
theorem dX5_meanWait_53 : decode cX5_meanWait 53 = .ok (.i2d, 1) := by decide +kernel
theorem dX5_meanWait_54 : decode cX5_meanWait 54 = .ok (.ddiv, 1) := by decide +kernel
theorem dX5_meanWait_55 : decode cX5_meanWait 55 = .ok (.dreturn, 1) := by decide +kernel
end
section
/-! the words that every contract here carries: all good words of the tables -/
def lw_g : List Cond := lw_tbl.filter goodWord
theorem lw_gm {w : Cond} (h : w ∈ lw_tbl) (hg : goodWord w = true) : w ∈ lw_g := List.mem_filter.mpr ⟨h, hg⟩
theorem lw_gg {w : Cond} (h : w ∈ lw_g) : goodWord w = true := (List.mem_filter.mp h).2
theorem lw_gi (i : Nat) {w : Cond} (h : lw_tbl[i]? = some w) (hg : goodWord w = true) : w ∈ lw_g := lw_gm (List.mem_of_getElem? h) hg
abbrev ms_w (y : MethodName) (b : ByteArray) (n : Nat) (r : Option FieldType) : List Cond := .code y b n r :: lw_g
theorem ms_gi {y : MethodName} {b : ByteArray} {n : Nat} {r : Option FieldType} (h : Cond.code y b n r ∈ lw_g) : GoodIn lw_g (ms_w y b n r) := fun w hw => by
  rcases List.mem_cons.mp hw with rfl | hw
  · exact ⟨h, good_of_word (lw_gg h)⟩
  · exact ⟨hw, good_of_word (lw_gg hw)⟩
theorem lw_go {w : Cond} (h : w ∈ lw_g) : w ∈ lw_g ∧ ((w.onTables && w.keeps) = true ∨ ∃ ty, w = .arrayClass ty) := ⟨h, good_of_word (lw_gg h)⟩
def is_nest : Cond → Bool
  | .fieldLinkNest .. => true
  | .methodLinkNest .. => true
  | .castable .. => true
  | _ => false
def lw_n : List Cond := lw_tbl.filter is_nest
theorem lw_ni (i : Nat) {w : Cond} (h : lw_tbl[i]? = some w) (hg : is_nest w = true) : w ∈ lw_n := List.mem_filter.mpr ⟨List.mem_of_getElem? h, hg⟩
def NW (U : State) : Prop := ∀ w ∈ lw_n, va_Nw w U
theorem NW.moved {s U : State} (hW : s.WarmedH U.vm) (h : NW s) : NW U := by
  intro w hw
  have h1 := h w hw
  have h2 := (List.mem_filter.mp hw).2
  cases w <;> first | exact va_Nw.warmF hW h1 | exact va_Nw.warmM hW h1 | exact va_Nw.warmC hW h1 | exact absurd h2 (by simp [is_nest])
/-- what a launch's ghost things are: (classes, fields' slots), array classes, the empty array of ArrayList, the mirror of Object[], the texts -/
abbrev cG : Type := va_G × (Nat → ClassId) × Nat × Nat × (Nat → Nat)
abbrev tyL (g : cG) : List (ClassId × FieldType) := [(g.2.1 0, .int), (g.2.1 1, .char), (g.2.1 2, .boolean), (g.2.1 3, .object "java/lang/Object"), (g.2.1 4, .long), (g.2.1 5, .double)]
abbrev nF (F : Nat → Prop) : Nat → Prop := fun q => ¬ F q
def lw_str : List (Nat × String) := [(53, "the capacity is out of range"), (64, "there are 3 lifts"), (81, "the floor is out of range"), (84, "the tenant is out of range"), (86, "a time is out of range"), (88, "there are 8 badges"), (218, "there is no such badge"), (110, "both floors are the same"), (114, "the badge may not enter the floor"), (121, "no rider can call with this badge now"), (220, "there is no such rider"), (157, "the rider has no lift"), (222, "there is no such lift"), (174, "the lift can't be called off now"), (190, "the number of ticks is out of range"), (199, "no alarm can begin now"), (207, "no floor has its turn"), (211, "nobody called")]
def lw_nc : List (String × String) := [("java/lang/IllegalStateException", "java/lang/IllegalArgumentException"), ("java/lang/IndexOutOfBoundsException", "java/lang/IllegalArgumentException"), ("java/lang/UnsupportedOperationException", "java/lang/IllegalArgumentException"), ("java/util/NoSuchElementException", "java/lang/IllegalArgumentException"), ("java/lang/ArithmeticException", "java/lang/IllegalArgumentException"), ("java/lang/IllegalArgumentException", "java/lang/IllegalStateException"), ("java/lang/IndexOutOfBoundsException", "java/lang/IllegalStateException"), ("java/lang/UnsupportedOperationException", "java/lang/IllegalStateException"), ("java/util/NoSuchElementException", "java/lang/IllegalStateException"), ("java/lang/ArithmeticException", "java/lang/IllegalStateException"), ("java/lang/IllegalArgumentException", "java/lang/IndexOutOfBoundsException"), ("java/lang/IllegalStateException", "java/lang/IndexOutOfBoundsException"), ("java/lang/UnsupportedOperationException", "java/lang/IndexOutOfBoundsException"), ("java/util/NoSuchElementException", "java/lang/IndexOutOfBoundsException"), ("java/lang/ArithmeticException", "java/lang/IndexOutOfBoundsException"), ("java/lang/IllegalArgumentException", "java/lang/UnsupportedOperationException"), ("java/lang/IllegalStateException", "java/lang/UnsupportedOperationException"), ("java/lang/IndexOutOfBoundsException", "java/lang/UnsupportedOperationException"), ("java/util/NoSuchElementException", "java/lang/UnsupportedOperationException"), ("java/lang/ArithmeticException", "java/lang/UnsupportedOperationException"), ("java/lang/IllegalArgumentException", "java/util/NoSuchElementException"), ("java/lang/IllegalStateException", "java/util/NoSuchElementException"), ("java/lang/IndexOutOfBoundsException", "java/util/NoSuchElementException"), ("java/lang/UnsupportedOperationException", "java/util/NoSuchElementException"), ("java/lang/ArithmeticException", "java/util/NoSuchElementException"), ("java/lang/IllegalArgumentException", "java/lang/ArithmeticException"), ("java/lang/IllegalStateException", "java/lang/ArithmeticException"), ("java/lang/IndexOutOfBoundsException", "java/lang/ArithmeticException"), ("java/lang/UnsupportedOperationException", "java/lang/ArithmeticException"), ("java/util/NoSuchElementException", "java/lang/ArithmeticException")]
def GS (g : cG) (F : Nat → Prop) (U : State) : Prop :=
  va_Z "java/util/ArrayList" "DEFAULTCAPACITY_EMPTY_ELEMENTDATA" "[Ljava/lang/Object;" (.ref g.2.2.1) (nF F) U U.heap ∧
  va_T (.object "java/lang/Object") g.2.2.1 0 (fun _ => .null) (nF F) U U.heap ∧
  vx_Zq Bundle.tN "UNASSIGNED_STACK" Bundle.steD (nF F) U U.heap ∧ vx_Zq Bundle.tN "SUPPRESSED_SENTINEL" Bundle.listD (nF F) U U.heap ∧
  (∀ q ∈ lw_str, vk_R "LiftDesk" q.1 q.2 (g.2.2.2.2 q.1) U) ∧ va_Mi "[Ljava/lang/Object;" g.2.2.2.1 U ∧ va_Dc U ∧ va_AO "java/lang/Object" U ∧ (∀ q ∈ lw_nc, va_Nc q.1 q.2 U)
theorem GS.moved {g : cG} {F : Nat → Prop} {s U : State} {H : Heap} {locs : List Loc} (hS : va_S (nF F) s.heap H locs) (hU : U.heap = H) (hW : s.WarmedH U.vm) (h : GS g F s) : GS g F U := by
  obtain ⟨h1, h2, h3, h4, h5, h6, h7, h8, h9⟩ := h
  refine ⟨?_, ?_, ?_, ?_, ?_, ?_, ?_, ?_, ?_⟩
  · rw [hU]; exact va_Z.moved hW.alike (h1.kept hS.2.1)
  · rw [hU]; exact va_T.moved hW.alike (h2.kept hS.2.1)
  · rw [hU]; exact vx_Zq.moved hW.alike (h3.kept hS.2.1)
  · rw [hU]; exact vx_Zq.moved hW.alike (h4.kept hS.2.1)
  · exact fun q hq => vk_R.warm hW (h5 q hq)
  · exact va_Mi.moved hW.alike h6
  · exact va_Dc.moved hW.alike h7
  · exact va_AO.moved hW.alike h8
  · exact fun q hq => va_Nc.moved hW.alike (h9 q hq)
def GE (g : cG) (F : Nat → Prop) (U : State) : Prop := va_K g.1 vwCl (tyL g) U ∧ NW U ∧ GS g F U
theorem GE.moved {g : cG} {F : Nat → Prop} {s U : State} {H : Heap} {locs : List Loc} (hS : va_S (nF F) s.heap H locs) (hU : U.heap = H) (hW : s.WarmedH U.vm) (h : GE g F s) : GE g F U :=
  ⟨va_K.moved hW.alike h.1, NW.moved hW h.2.1, GS.moved hS hU hW h.2.2⟩
/-- what a walk has at hand all along -/
abbrev EN (p : Program) (s : State) (m : MethodId) (c : Code) (cc : ByteArray) (nL : Nat) (args : Array Value) (own : String) (g : cG) (F : Nat → Prop) : Prop :=
  p.tables.exec = Jvm.exec ∧ c.code = cc ∧ c.maxLocals = nL ∧ s.vm.findClass own = some m.cls ∧ (∀ w ∈ lw_g, w.before args s = true) ∧ GE g F s
/-- the general end: an answer and a heap, what isn't free stays -/
def Qg (F : Nat → Prop) (post : Option Value → Heap → Prop) : Array Value → State → Outcome → State → Prop := fun _ st oc t => (∃ v, oc = .returned v ∧ post v t.heap) ∧ va_F (nF F) st t
def CT (l : Launch) (y : MethodName) (b : ByteArray) (n : Nat) (ret : Option FieldType) (fr lo mc ms : Nat) (g : cG) (F : Nat → Prop) (as : List Value) (P : Heap → Prop) (post : Option Value → Heap → Prop) : Prop :=
  Met l y (ms_w y b n ret) { frames := fr, cells := mc, slots := ms, locals := lo } (va_Pc as (fun U => GE g F U ∧ P U.heap)) (Qg F post) mc ms (nF F)
theorem CT.of {l : Launch} {y : MethodName} {b : ByteArray} {n : Nat} {ret : Option FieldType} {fr lo mc ms : Nat} {g : cG} {F : Nat → Prop} {as : List Value} {P : Heap → Prop} {post : Option Value → Heap → Prop}
    (hy : plainName y.cls = true) (hn : Nat.ble (lg_sl as).length n = true)
    (body : ∀ (p : Program) (e : Env) (s : State) (m : MethodId) (args : Array Value) (below : List Frame) (meth : Method) (c : Code), EN p s m c b n args y.cls g F → meth.sig.returnType = ret → meth.locks = false → meth.name = y.name → P s.heap → ∀ ls : Array Slot, lv_has ls n (lv_args 0 as) →
      W p l e { frames := fr, cells := mc, slots := ms, locals := lo } s m args below meth c s.heap [] 0 0 (MQ below (Qg F post) args s mc ms (nF F)) (F0 m 0 ls [])) : CT l y b n ret fr lo mc ms g F as P post := by
  refine Met.ofW (cc := b) (maxL := n) (ret := ret) hy rfl ?_
  intro p e s m args below meth c s₁ B hml hv
  obtain ⟨rfl, hG, hP⟩ := hv
  have hts := atoms_spec (ws := ms_w y b n ret) B.pre
  have hl := lv_entry as (n := n) (Nat.le_of_ble_eq_true hn)
  rw [lg_entry_eq]
  exact body p e s m _ below meth c ⟨B.exec, B.bytes, hml, findClass_of_methodNamed B.named, fun w hw => hts w (List.mem_cons_of_mem _ hw), hG⟩ B.returns B.notSynchronized (name_of_methodNamed B.named B.method).1 hP _ hl
section CR
variable {p : Program} {l : Launch} {e : Env} {R : Room} {s : State} {m : MethodId} {args : Array Value} {below : List Frame} {meth : Method} {c : Code} {H : Heap} {locs : List Loc} {cells slots : Nat} {Q : State → Prop}
variable {cc : ByteArray} {pc nL : Nat} {ls : Array Slot} {rest : List Value} {own : String} {g : cG} {F : Nat → Prop} {H0 : Heap} {post : Option Value → Heap → Prop} {mc ms : Nat}
theorem ct_iret {v : Int32} (E : EN p s m c cc nL args own g F) (hr : meth.sig.returnType = some .int) (hk : meth.locks = false) (hS : va_S (nF F) s.heap H locs) (hp : post (some (.int v)) H) (hd : decode cc pc = .ok (.ireturn, 1)) (hc : cells ≤ mc := by exact Nat.zero_le _) (hs : slots ≤ ms := by exact Nat.zero_le _) :
    W p l e R s m args below meth c H locs cells slots (MQ below (Qg F post) args s mc ms (nF F)) (F0 m pc ls [.int v]) :=
  W.widen hc hs (W.iret (v := v) E.1 E.2.1 hr (fun t ht hW => ⟨⟨_, rfl, by rw [ht]; exact hp⟩, hS.F ht⟩) hS.2.2 hd)
theorem ct_zret {v : Int32} {ty : FieldType} (E : EN p s m c cc nL args own g F) (hr : meth.sig.returnType = some ty) (hn : narrow ty (.int v) = .int v) (hk : meth.locks = false) (hS : va_S (nF F) s.heap H locs) (hp : post (some (.int v)) H) (hd : decode cc pc = .ok (.ireturn, 1)) (hc : cells ≤ mc := by exact Nat.zero_le _) (hs : slots ≤ ms := by exact Nat.zero_le _) :
    W p l e R s m args below meth c H locs cells slots (MQ below (Qg F post) args s mc ms (nF F)) (F0 m pc ls [.int v]) :=
  W.widen hc hs (W.zret (v := v) E.1 E.2.1 hr hn (fun t ht hW => ⟨⟨_, rfl, by rw [ht]; exact hp⟩, hS.F ht⟩) hS.2.2 hd)
theorem ct_vret (E : EN p s m c cc nL args own g F) (hr : meth.sig.returnType = none) (hk : meth.locks = false) (hS : va_S (nF F) s.heap H locs) (hp : post none H) (hd : decode cc pc = .ok (.return_, 1)) (hc : cells ≤ mc := by exact Nat.zero_le _) (hs : slots ≤ ms := by exact Nat.zero_le _) :
    W p l e R s m args below meth c H locs cells slots (MQ below (Qg F post) args s mc ms (nF F)) (F0 m pc ls []) :=
  W.widen hc hs (W.vret E.1 E.2.1 hr (fun t ht hW => ⟨⟨_, rfl, by rw [ht]; exact hp⟩, hS.F ht⟩) hS.2.2 hd)
theorem ct_fret {v : UInt32} (E : EN p s m c cc nL args own g F) (hr : meth.sig.returnType = some .float) (hk : meth.locks = false) (hS : va_S (nF F) s.heap H locs) (hp : post (some (.float v)) H) (hd : decode cc pc = .ok (.freturn, 1)) (hc : cells ≤ mc := by exact Nat.zero_le _) (hs : slots ≤ ms := by exact Nat.zero_le _) :
    W p l e R s m args below meth c H locs cells slots (MQ below (Qg F post) args s mc ms (nF F)) (F0 m pc ls [.float v]) :=
  W.widen hc hs (W.fret (v := v) E.1 E.2.1 hr (fun t ht hW => ⟨⟨_, rfl, by rw [ht]; exact hp⟩, hS.F ht⟩) hS.2.2 hd)
theorem ct_dret {v : UInt64} (E : EN p s m c cc nL args own g F) (hr : meth.sig.returnType = some .double) (hk : meth.locks = false) (hS : va_S (nF F) s.heap H locs) (hp : post (some (.double v)) H) (hd : decode cc pc = .ok (.dreturn, 1)) (hc : cells ≤ mc := by exact Nat.zero_le _) (hs : slots ≤ ms := by exact Nat.zero_le _) :
    W p l e R s m args below meth c H locs cells slots (MQ below (Qg F post) args s mc ms (nF F)) (F0 m pc ls [.double v]) :=
  W.widen hc hs (W.dret (v := v) E.1 E.2.1 hr (fun t ht hW => ⟨⟨_, rfl, by rw [ht]; exact hp⟩, hS.F ht⟩) hS.2.2 hd)
/-- a call's going on -/
theorem ct_go {mc1 ms1 : Nat} {st0 : List Value} {a : Array Value} (hr : va_Run p l e R s m args below meth c H locs cells slots mc1 ms1 (F0 m pc ls st0) rest (Qg F post a) (nF F)) (hS : va_S (nF F) H0 H locs)
    (kk : ∀ (v : Option Value) (H1 : Heap) (locs1 : List Loc), post v H1 → va_S (nF F) H0 H1 locs1 → H.size ≤ H1.size → W p l e R s m args below meth c H1 locs1 (cells + mc1) (slots + ms1) Q (F0 m (pc + 3) ls (v.toList ++ rest))) : W p l e R s m args below meth c H locs cells slots Q (F0 m pc ls st0) := by
  intro T hT X
  obtain ⟨v, st₀, t, T', L, h0, X', hL, e1, e2, ⟨⟨v', hv, hp⟩, hz, hk⟩, st⟩ := hr T hT X
  cases hv
  rw [h0] at hz hk
  obtain ⟨t2, a1, b1⟩ := kk v T'.heap (locs ++ L) (by rw [e1]; exact hp)
    ⟨Nat.le_trans hS.1 (by rw [e1]; exact hz), fun q h1 h2 => by rw [e1, hk q (Nat.lt_of_lt_of_le h1 hS.1) h2]; exact hS.2.1 q h1 h2, fun q hq => by
      rcases List.mem_append.mp hq with h | h
      · exact hS.2.2 q h
      · exact hL q h⟩ (by rw [e1]; exact hz) T' rfl X'
  exact ⟨t2, st t2 a1, b1⟩
/-- the words of a callee -/
def okC (y : MethodName) (b : ByteArray) (n : Nat) (ret : Option FieldType) (k : Nat) : Prop :=
  Cond.initialized y.cls ∈ lw_g ∧ Cond.code y b n ret ∈ lw_g ∧ y.cls ≠ "java/lang/invoke/MethodHandle" ∧ y.cls ≠ "java/lang/invoke/VarHandle" ∧ (parseMethodDescriptor y.desc).map (fun d => d.parameters.length) = some k
def okV (y : MethodName) (b : ByteArray) (n : Nat) (ret : Option FieldType) (k : Nat) : Prop := okC y b n ret k ∧ Cond.instanceMethod y ∈ lw_g ∧ Cond.selects y.cls y y ∈ lw_g
def okS (y : MethodName) (b : ByteArray) (n : Nat) (ret : Option FieldType) (k : Nat) : Prop := okC y b n ret k ∧ Cond.static y ∈ lw_g
def okI (y : MethodName) (b : ByteArray) (n : Nat) (ret : Option FieldType) (k : Nat) : Prop := okC y b n ret k ∧ Cond.instanceMethod y ∈ lw_g ∧ y.name = "<init>"
variable {y : MethodName} {b : ByteArray} {n k fr lo mc1 ms1 idx o : Nat} {ret : Option FieldType} {As : List Value} {P : Heap → Prop}
theorem ct_pre (hG : GE g F s) (hS : va_S (nF F) s.heap H locs) (hP : P H) (As : List Value) : PreS s H (va_Pc As (fun U => GE g F U ∧ P U.heap)) As := by
  refine ⟨fun a U g9 mk q => ?_, fun U hU hW => ⟨rfl, hG.moved hS hU hW, by rw [hU]; exact hP⟩⟩
  obtain ⟨q1, q2, q3⟩ := q
  have hS1 : va_S (nF F) U.heap U.heap ([] : List Loc) := va_S.rf
  exact ⟨q1, q2.moved hS1 rfl (State.WarmedH.refl U), q3⟩
theorem ct_V (E : EN p s m c cc nL args own g F) (hS : va_S (nF F) s.heap H locs) (hM : CT l y b n ret fr lo mc1 ms1 g F (.ref o :: As) P post) (ok : okV y b n ret k) (hlk : Cond.methodLink own idx y ∈ lw_g) (hP : P H)
    (ho : ∃ cellB : Cell, H[o]? = some cellB ∧ cellB.vm.isStatics = false ∧ s.vm.findClass y.cls = some cellB.cls) (hlen : As.length = k) {lv : List (Nat × Value)} (hls : lv_has ls nL lv) (hR : Nat.ble (fr + 1) R.frames = true ∧ Nat.ble (8 + (n + 11) + lo) R.locals = true) (hst : Nat.ble (rest.map fun v => v.category).sum 8 = true)
    (hf : cells + mc1 ≤ R.cells ∧ slots + ms1 ≤ R.slots) (hd : decode cc pc = .ok (.invokevirtual idx, 3))
    {st0 : List Value} (hst0 : st0 = As.reverse ++ .ref o :: rest)
    (kk : ∀ (v : Option Value) (H1 : Heap) (locs1 : List Loc), post v H1 → va_S (nF F) s.heap H1 locs1 → H.size ≤ H1.size → W p l e R s m args below meth c H1 locs1 (cells + mc1) (slots + ms1) Q (F0 m (pc + 3) ls (v.toList ++ rest))) : W p l e R s m args below meth c H locs cells slots Q (F0 m pc ls st0) := by
  obtain ⟨hx, hb, hml, hown, hts, hG⟩ := E
  obtain ⟨⟨k1, k2, k3, k4, k5⟩, k6, k7⟩ := ok
  obtain ⟨q1, q2⟩ := ct_pre (P := P) hG hS hP (.ref o :: As)
  refine ct_go (va_runV (As := As) (rest := rest) (Ts := lw_g) (own := own) (nL := nL) ⟨hx, hb, hml, hown, hts⟩ hM
    (cwV k hts (by
      intro w hw
      unfold wsV at hw
      rcases List.mem_append.mp hw with h | h
      · simp only [List.mem_cons, List.not_mem_nil, or_false] at h
        rcases h with rfl | rfl | rfl | rfl
        · exact lw_go hlk
        · exact lw_go k6
        · exact lw_go k7
        · exact lw_go k1
      · exact ms_gi k2 w h) rfl rfl rfl ⟨rfl, k3, k4, k5⟩ ⟨Nat.le_of_ble_eq_true hR.1, Nat.le_of_ble_eq_true hR.2⟩)
    ⟨q1, ho, q2⟩ rfl hlen hls.1 hst0 (lv_room (Nat.le_of_ble_eq_true hst)) hd hf) hS kk
theorem ct_S (E : EN p s m c cc nL args own g F) (hS : va_S (nF F) s.heap H locs) (hM : CT l y b n ret fr lo mc1 ms1 g F As P post) (ok : okS y b n ret k) (hlk : Cond.methodLink own idx y ∈ lw_g) (hP : P H)
    (hlen : As.length = k) {lv : List (Nat × Value)} (hls : lv_has ls nL lv) (hR : Nat.ble (fr + 1) R.frames = true ∧ Nat.ble (8 + (n + 11) + lo) R.locals = true) (hst : Nat.ble (rest.map fun v => v.category).sum 8 = true)
    (hf : cells + mc1 ≤ R.cells ∧ slots + ms1 ≤ R.slots) (hd : decode cc pc = .ok (.invokestatic idx, 3))
    {st0 : List Value} (hst0 : st0 = As.reverse ++ rest)
    (kk : ∀ (v : Option Value) (H1 : Heap) (locs1 : List Loc), post v H1 → va_S (nF F) s.heap H1 locs1 → H.size ≤ H1.size → W p l e R s m args below meth c H1 locs1 (cells + mc1) (slots + ms1) Q (F0 m (pc + 3) ls (v.toList ++ rest))) : W p l e R s m args below meth c H locs cells slots Q (F0 m pc ls st0) := by
  obtain ⟨hx, hb, hml, hown, hts, hG⟩ := E
  obtain ⟨⟨k1, k2, k3, k4, k5⟩, k6⟩ := ok
  refine ct_go (va_runS (As := As) (rest := rest) (Ts := lw_g) (own := own) (nL := nL) ⟨hx, hb, hml, hown, hts⟩ hM
    (va_cwS k hts (by
      intro w hw
      unfold va_wsS at hw
      rcases List.mem_append.mp hw with h | h
      · simp only [List.mem_cons, List.not_mem_nil, or_false] at h
        rcases h with rfl | rfl | rfl
        · exact lw_go hlk
        · exact lw_go k6
        · exact lw_go k1
      · exact ms_gi k2 w h) rfl rfl rfl ⟨k3, k4, k5⟩ ⟨Nat.le_of_ble_eq_true hR.1, Nat.le_of_ble_eq_true hR.2⟩)
    (ct_pre (P := P) hG hS hP As) rfl hlen hls.1 hst0 (lv_room (Nat.le_of_ble_eq_true hst)) hd hf) hS kk
theorem ct_I (E : EN p s m c cc nL args own g F) (hS : va_S (nF F) s.heap H locs) (hM : CT l y b n none fr lo mc1 ms1 g F (.ref o :: As) P post) (ok : okI y b n none k) (hlk : Cond.methodLink own idx y ∈ lw_g) (hP : P H)
    (hlen : As.length = k) {lv : List (Nat × Value)} (hls : lv_has ls nL lv) (hR : Nat.ble (fr + 1) R.frames = true ∧ Nat.ble (8 + (n + 11) + lo) R.locals = true) (hst : Nat.ble (rest.map fun v => v.category).sum 8 = true)
    (hf : cells + mc1 ≤ R.cells ∧ slots + ms1 ≤ R.slots) (hd : decode cc pc = .ok (.invokespecial idx, 3))
    {st0 : List Value} (hst0 : st0 = As.reverse ++ .ref o :: rest)
    (kk : ∀ (v : Option Value) (H1 : Heap) (locs1 : List Loc), post v H1 → va_S (nF F) s.heap H1 locs1 → H.size ≤ H1.size → W p l e R s m args below meth c H1 locs1 (cells + mc1) (slots + ms1) Q (F0 m (pc + 3) ls (v.toList ++ rest))) : W p l e R s m args below meth c H locs cells slots Q (F0 m pc ls st0) := by
  obtain ⟨hx, hb, hml, hown, hts, hG⟩ := E
  obtain ⟨⟨k1, k2, k3, k4, k5⟩, k6, k7⟩ := ok
  refine ct_go (va_runI (As := As) (rest := rest) (Ts := lw_g) (own := own) (nL := nL) ⟨hx, hb, hml, hown, hts⟩ hM
    (cwI k hts (ms_gi k2) rfl rfl rfl (hts _ k1) (hts _ hlk) (hts _ k6) k7 ⟨k3, k4, k5⟩ ⟨Nat.le_of_ble_eq_true hR.1, Nat.le_of_ble_eq_true hR.2⟩)
    (ct_pre (P := P) hG hS hP (.ref o :: As)) rfl hlen hls.1 hst0 (lv_room (Nat.le_of_ble_eq_true hst)) hd hf) hS kk
end CR
/-! calls of a method that leaves more alone than its caller -/
theorem GE.big {g : cG} {F F1 : Nat → Prop} {s : State} (hF : ∀ q, F q → F1 q) (h : GE g F s) : GE g F1 s := by
  obtain ⟨k1, k2, h1, h2, h3, h4, h5⟩ := h
  exact ⟨k1, k2, h1.narrow (fun q z y => z (hF q y)), h2.narrow (fun q z y => z (hF q y)), h3.narrow (fun q z y => z (hF q y)), h4.narrow (fun q z y => z (hF q y)), h5⟩
section CRF
variable {p : Program} {l : Launch} {e : Env} {R : Room} {s : State} {m : MethodId} {args : Array Value} {below : List Frame} {meth : Method} {c : Code} {H : Heap} {locs : List Loc} {cells slots : Nat} {Q : State → Prop}
variable {cc : ByteArray} {pc nL : Nat} {ls : Array Slot} {rest : List Value} {own : String} {g : cG} {F F1 : Nat → Prop} {H0 : Heap} {post : Option Value → Heap → Prop} {mc ms : Nat}
theorem ct_aret {v : Value} {rt : FieldType} (E : EN p s m c cc nL args own g F) (hr : meth.sig.returnType = some rt) (hrt : (∃ n, rt = .object n) ∨ ∃ t, rt = .array t) (hv : v = .null ∨ ∃ a, v = .ref a) (hk : meth.locks = false) (hS : va_S (nF F) s.heap H locs) (hp : post (some v) H) (hd : decode cc pc = .ok (.areturn, 1)) (hc : cells ≤ mc := by exact Nat.zero_le _) (hs : slots ≤ ms := by exact Nat.zero_le _) :
    W p l e R s m args below meth c H locs cells slots (MQ below (Qg F post) args s mc ms (nF F)) (F0 m pc ls [v]) :=
  W.widen hc hs (W.aret (v := v) E.1 E.2.1 hr hrt hv (fun t ht hW => ⟨⟨_, rfl, by rw [ht]; exact hp⟩, hS.F ht⟩) hS.2.2 hd)
theorem ct_goF (hF : ∀ q, F q → F1 q) {mc1 ms1 : Nat} {st0 : List Value} {a : Array Value} (hr : va_Run p l e R s m args below meth c H locs cells slots mc1 ms1 (F0 m pc ls st0) rest (Qg F1 post a) (nF F1)) (hS : va_S (nF F) H0 H locs)
    (kk : ∀ (v : Option Value) (H1 : Heap) (locs1 : List Loc), post v H1 → va_S (nF F) H0 H1 locs1 → H.size ≤ H1.size → (∀ q, q < H.size → F1 q → H1[q]? = H[q]?) → W p l e R s m args below meth c H1 locs1 (cells + mc1) (slots + ms1) Q (F0 m (pc + 3) ls (v.toList ++ rest))) : W p l e R s m args below meth c H locs cells slots Q (F0 m pc ls st0) := by
  intro T hT X
  obtain ⟨v, st₀, t, T', L, h0, X', hL, e1, e2, ⟨⟨v', hv, hp⟩, hz, hk⟩, st⟩ := hr T hT X
  cases hv
  rw [h0] at hz hk
  obtain ⟨t2, a1, b1⟩ := kk v T'.heap (locs ++ L) (by rw [e1]; exact hp)
    ⟨Nat.le_trans hS.1 (by rw [e1]; exact hz), fun q h1 h2 => by rw [e1, hk q (Nat.lt_of_lt_of_le h1 hS.1) (fun z => z (hF q (Classical.not_not.mp h2)))]; exact hS.2.1 q h1 h2, fun q hq => by
      rcases List.mem_append.mp hq with h | h
      · exact hS.2.2 q h
      · exact fun z => hL q h (hF _ z)⟩ (by rw [e1]; exact hz) (fun q h1 h2 => by rw [e1]; exact hk q h1 (fun z => z h2)) T' rfl X'
  exact ⟨t2, st t2 a1, b1⟩
variable {y : MethodName} {b : ByteArray} {n k fr lo mc1 ms1 idx o : Nat} {ret : Option FieldType} {As : List Value} {P : Heap → Prop}
theorem ct_preF (hF : ∀ q, F q → F1 q) (hG : GE g F s) (hS : va_S (nF F) s.heap H locs) (hP : P H) (As : List Value) : PreS s H (va_Pc As (fun U => GE g F1 U ∧ P U.heap)) As := by
  refine ⟨fun a U g9 mk q => ?_, fun U hU hW => ⟨rfl, (hG.moved hS hU hW).big hF, by rw [hU]; exact hP⟩⟩
  obtain ⟨q1, q2, q3⟩ := q
  have hS1 : va_S (nF F1) U.heap U.heap ([] : List Loc) := va_S.rf
  exact ⟨q1, q2.moved hS1 rfl (State.WarmedH.refl U), q3⟩
theorem ct_VF (hF : ∀ q, F q → F1 q) (E : EN p s m c cc nL args own g F) (hS : va_S (nF F) s.heap H locs) (hM : CT l y b n ret fr lo mc1 ms1 g F1 (.ref o :: As) P post) (ok : okV y b n ret k) (hlk : Cond.methodLink own idx y ∈ lw_g) (hP : P H)
    (ho : ∃ cellB : Cell, H[o]? = some cellB ∧ cellB.vm.isStatics = false ∧ s.vm.findClass y.cls = some cellB.cls) (hlen : As.length = k) {lv : List (Nat × Value)} (hls : lv_has ls nL lv) (hR : Nat.ble (fr + 1) R.frames = true ∧ Nat.ble (8 + (n + 11) + lo) R.locals = true) (hst : Nat.ble (rest.map fun v => v.category).sum 8 = true)
    (hf : cells + mc1 ≤ R.cells ∧ slots + ms1 ≤ R.slots) (hd : decode cc pc = .ok (.invokevirtual idx, 3))
    {st0 : List Value} (hst0 : st0 = As.reverse ++ .ref o :: rest)
    (kk : ∀ (v : Option Value) (H1 : Heap) (locs1 : List Loc), post v H1 → va_S (nF F) s.heap H1 locs1 → H.size ≤ H1.size → (∀ q, q < H.size → F1 q → H1[q]? = H[q]?) → W p l e R s m args below meth c H1 locs1 (cells + mc1) (slots + ms1) Q (F0 m (pc + 3) ls (v.toList ++ rest))) : W p l e R s m args below meth c H locs cells slots Q (F0 m pc ls st0) := by
  obtain ⟨hx, hb, hml, hown, hts, hG⟩ := E
  obtain ⟨⟨k1, k2, k3, k4, k5⟩, k6, k7⟩ := ok
  obtain ⟨q1, q2⟩ := ct_preF (P := P) hF hG hS hP (.ref o :: As)
  refine ct_goF hF (va_runV (As := As) (rest := rest) (Ts := lw_g) (own := own) (nL := nL) ⟨hx, hb, hml, hown, hts⟩ hM
    (cwV k hts (by
      intro w hw
      unfold wsV at hw
      rcases List.mem_append.mp hw with h | h
      · simp only [List.mem_cons, List.not_mem_nil, or_false] at h
        rcases h with rfl | rfl | rfl | rfl
        · exact lw_go hlk
        · exact lw_go k6
        · exact lw_go k7
        · exact lw_go k1
      · exact ms_gi k2 w h) rfl rfl rfl ⟨rfl, k3, k4, k5⟩ ⟨Nat.le_of_ble_eq_true hR.1, Nat.le_of_ble_eq_true hR.2⟩)
    ⟨q1, ho, q2⟩ rfl hlen hls.1 hst0 (lv_room (Nat.le_of_ble_eq_true hst)) hd hf) hS kk
theorem ct_IF (hF : ∀ q, F q → F1 q) (E : EN p s m c cc nL args own g F) (hS : va_S (nF F) s.heap H locs) (hM : CT l y b n none fr lo mc1 ms1 g F1 (.ref o :: As) P post) (ok : okI y b n none k) (hlk : Cond.methodLink own idx y ∈ lw_g) (hP : P H)
    (hlen : As.length = k) {lv : List (Nat × Value)} (hls : lv_has ls nL lv) (hR : Nat.ble (fr + 1) R.frames = true ∧ Nat.ble (8 + (n + 11) + lo) R.locals = true) (hst : Nat.ble (rest.map fun v => v.category).sum 8 = true)
    (hf : cells + mc1 ≤ R.cells ∧ slots + ms1 ≤ R.slots) (hd : decode cc pc = .ok (.invokespecial idx, 3))
    {st0 : List Value} (hst0 : st0 = As.reverse ++ .ref o :: rest)
    (kk : ∀ (v : Option Value) (H1 : Heap) (locs1 : List Loc), post v H1 → va_S (nF F) s.heap H1 locs1 → H.size ≤ H1.size → (∀ q, q < H.size → F1 q → H1[q]? = H[q]?) → W p l e R s m args below meth c H1 locs1 (cells + mc1) (slots + ms1) Q (F0 m (pc + 3) ls (v.toList ++ rest))) : W p l e R s m args below meth c H locs cells slots Q (F0 m pc ls st0) := by
  obtain ⟨hx, hb, hml, hown, hts, hG⟩ := E
  obtain ⟨⟨k1, k2, k3, k4, k5⟩, k6, k7⟩ := ok
  refine ct_goF hF (va_runI (As := As) (rest := rest) (Ts := lw_g) (own := own) (nL := nL) ⟨hx, hb, hml, hown, hts⟩ hM
    (cwI k hts (ms_gi k2) rfl rfl rfl (hts _ k1) (hts _ hlk) (hts _ k6) k7 ⟨k3, k4, k5⟩ ⟨Nat.le_of_ble_eq_true hR.1, Nat.le_of_ble_eq_true hR.2⟩)
    (ct_preF (P := P) hF hG hS hP (.ref o :: As)) rfl hlen hls.1 hst0 (lv_room (Nat.le_of_ble_eq_true hst)) hd hf) hS kk
end CRF
/-! rows that speak of one cell alone -/
theorem va_P1 {D : va_G} {cl : List vw_C} {q : Nat × va_E} {H : Heap} (h : va_at D cl q H) : va_P D cl [q] H := fun k x hx => by
  have hz : k < 1 := (List.getElem?_eq_some_iff.mp hx).1
  rw [show k = 0 by omega] at hx
  cases hx
  exact h
section PT
variable {p : Program} {l : Launch} {e : Env} {R : Room} {s : State} {m : MethodId} {args : Array Value} {below : List Frame} {meth : Method} {c : Code} {H : Heap} {locs : List Loc} {cells slots : Nat} {Q : State → Prop}
variable {cc : ByteArray} {pc nL : Nat} {ls : Array Slot} {rest : List Value} {own : String} {g : cG} {F : Nat → Prop} {H0 : Heap} {a : Nat}
theorem w_get (E : EN p s m c cc nL args own g F) {C : String} {T : u_T} {N ci index : Nat} (hin : ∀ w ∈ u_ws C T N, w ∈ lw_g) {fs : List Value} (he : va_at g.1 vwCl (a, .inr (ci, fs)) H) (hc : vwCl[ci]? = some (C, T, N)) (k : Nat) (hk : k < N) (hT : (T k).1 = C) (hlink : Cond.fieldLink own index C (T k).2.1 (T k).2.2.1 ∈ lw_g) {v : Value} (hv : fs[k]? = some v) (hdg : decode cc pc = .ok (.getfield index, 3))
    (kk : W p l e R s m args below meth c H locs cells slots Q (F0 m (pc + 3) ls (v :: rest))) : W p l e R s m args below meth c H locs cells slots Q (F0 m pc ls (.ref a :: rest)) :=
  va_get (ref := C) E.1 E.2.1 E.2.2.2.2.1 hin E.2.2.2.1 E.2.2.2.2.2.1 (va_P1 he) 0 rfl hc k hk (E.2.2.2.2.1 _ hlink) (fun x h => by rw [hT] at h; exact h) hv hdg kk
theorem w_put (E : EN p s m c cc nL args own g F) {C : String} {T : u_T} {N ci index : Nat} (hin : ∀ w ∈ u_ws C T N, w ∈ lw_g) (ty0 : Nat → FieldType) (hty : ∀ k, k < N → parseFieldDescriptor (T k).2.2.1 = some (ty0 k)) (hnm : ∀ a, a < N → ∀ b, b < N → a ≠ b → (T a).2.1 ≠ (T b).2.1) (hS0 : va_S (nF F) H0 H locs) {fs : List Value} (he : va_at g.1 vwCl (a, .inr (ci, fs)) H) (ha : ¬ F a) (hc : vwCl[ci]? = some (C, T, N)) (k : Nat) (hk : k < N) (hT : (T k).1 = C) (hlink : Cond.fieldLink own index C (T k).2.1 (T k).2.2.1 ∈ lw_g) (hfin : (T k).2.2.2 = false) {v : Value} (hn : narrow (ty0 k) v = v) (hfit : fits (ty0 k) v = true) (hl : k < fs.length)
    (hdg : decode cc pc = .ok (.putfield index, 3)) (kk : ∀ (H1 : Heap) (locs1 : List Loc), va_at g.1 vwCl (a, .inr (ci, fs.set k v)) H1 → H1.size = H.size → (∀ q, q ≠ a → H1[q]? = H[q]?) → va_S (nF F) H0 H1 locs1 → W p l e R s m args below meth c H1 locs1 cells slots Q (F0 m (pc + 3) ls rest)) : W p l e R s m args below meth c H locs cells slots Q (F0 m pc ls (v :: .ref a :: rest)) := by
  obtain ⟨hexec, hb, -, hown, hts, hK, -⟩ := E
  have hap := va_apart (own := own) hts hin ty0 hty hnm hK hc
  obtain ⟨r, h1, cell, q1, q2, q3, q4⟩ := he
  have hr : r = (C, T, N) := Option.some.inj (h1.symm.trans hc)
  subst hr
  obtain ⟨hS, hfc, kC, hkC, hkind⟩ := hK.1 ci _ hc
  obtain ⟨cf, kf, fi, f, hi, hsl⟩ := hS k hk
  have hlay := hts _ (hin _ (u_in_lay hk))
  unfold u_lay at hlay
  rw [if_neg (by rw [hfin]; decide)] at hlay
  have hst := (u_facts hfc hkC (u_lays hts hin hk) hi).1
  have h6 := u_store hfc hkC hkind hlay hi (hty k hk) hn hfit
  rw [hT] at hi
  refine W.putK hexec hb (f := f) ⟨hown, hts _ hlink, ⟨_, _, _, hi⟩, hst⟩ (by rw [q2]; exact h6) q1 q3 (by rw [hsl]; exact k2_hasslot (q4 k hk)) rfl rfl hdg fun H' e1 e2 e3 => ?_
  rw [hsl] at e1 ⊢
  exact kk H' _ ⟨_, hc, t_OB.to (V := updV (vp_V fs) k v) ⟨_, e1, q2, q3, t_set q4 hap hk v⟩ (fun j _ => vp_updV_set hl v j)⟩ e2 e3 (hS0.put e2 e3 ha)
theorem w_iald (E : EN p s m c cc nL args own g F) {n : Nat} {f : Nat → Int32} (he : va_at g.1 vwCl (a, .inl (g.2.1 0, n, .inl f)) H) {i : Int32} (hin : vp_in i n) (hdg : decode cc pc = .ok (.iaload, 1))
    (kk : W p l e R s m args below meth c H locs cells slots Q (F0 m (pc + 1) ls (.int (f i.toNatClampNeg) :: rest))) : W p l e R s m args below meth c H locs cells slots Q (F0 m pc ls (.int i :: .ref a :: rest)) :=
  va_iald E.1 E.2.1 E.2.2.2.2.2.1 (va_P1 he) 0 0 rfl rfl hin hdg kk
theorem w_cald (E : EN p s m c cc nL args own g F) {n : Nat} {f : Nat → Int32} (he : va_at g.1 vwCl (a, .inl (g.2.1 1, n, .inl f)) H) {i : Int32} (hin : vp_in i n) (hdg : decode cc pc = .ok (.caload, 1))
    (kk : W p l e R s m args below meth c H locs cells slots Q (F0 m (pc + 1) ls (.int (f i.toNatClampNeg) :: rest))) : W p l e R s m args below meth c H locs cells slots Q (F0 m pc ls (.int i :: .ref a :: rest)) :=
  va_cald E.1 E.2.1 E.2.2.2.2.2.1 (va_P1 he) 0 1 rfl rfl hin hdg kk
theorem w_zald (E : EN p s m c cc nL args own g F) {n : Nat} {f : Nat → Int32} (he : va_at g.1 vwCl (a, .inl (g.2.1 2, n, .inl f)) H) {i : Int32} (hin : vp_in i n) (hdg : decode cc pc = .ok (.baload, 1))
    (kk : W p l e R s m args below meth c H locs cells slots Q (F0 m (pc + 1) ls (.int (f i.toNatClampNeg) :: rest))) : W p l e R s m args below meth c H locs cells slots Q (F0 m pc ls (.int i :: .ref a :: rest)) :=
  va_zald E.1 E.2.1 E.2.2.2.2.2.1 (va_P1 he) 0 2 rfl rfl hin hdg kk
theorem w_iast (E : EN p s m c cc nL args own g F) (hS0 : va_S (nF F) H0 H locs) {n : Nat} {f : Nat → Int32} (he : va_at g.1 vwCl (a, .inl (g.2.1 0, n, .inl f)) H) (ha : ¬ F a) {i x : Int32} (hin : vp_in i n) (hdg : decode cc pc = .ok (.iastore, 1))
    (kk : ∀ (H1 : Heap) (locs1 : List Loc), va_at g.1 vwCl (a, .inl (g.2.1 0, n, .inl (upd f i.toNatClampNeg x))) H1 → H1.size = H.size → (∀ q, q ≠ a → H1[q]? = H[q]?) → va_S (nF F) H0 H1 locs1 → W p l e R s m args below meth c H1 locs1 cells slots Q (F0 m (pc + 1) ls rest)) : W p l e R s m args below meth c H locs cells slots Q (F0 m pc ls (.int x :: .int i :: .ref a :: rest)) := by
  refine W.iast E.1 E.2.1 he ((E.2.2.2.2.2.1.2 0 _ rfl).1 n (fun j => .int (f j))) (fun q => by cases q) (by show ¬ (i < 0 ∨ (arrV _ _ _).slots.size ≤ _); rw [arrV_size]; exact hin) rfl rfl hdg fun H1 e z oq => ?_
  refine kk H1 _ ?_ z oq (hS0.put z oq ha)
  show H1[a]? = some (vp_cell _ _)
  rw [e, vp_cell_i, vp_cell_i, arrV_store]
  congr 2
  funext q
  by_cases hq : q = i.toNatClampNeg
  · subst hq
    simp [updV, upd]
  · simp [updV, upd, hq]
theorem w_zast (E : EN p s m c cc nL args own g F) (hS0 : va_S (nF F) H0 H locs) {n : Nat} {f : Nat → Int32} (he : va_at g.1 vwCl (a, .inl (g.2.1 2, n, .inl f)) H) (ha : ¬ F a) {i x : Int32} (hx9 : narrow .boolean (.int x) = .int x) (hin : vp_in i n) (hdg : decode cc pc = .ok (.bastore, 1))
    (kk : ∀ (H1 : Heap) (locs1 : List Loc), va_at g.1 vwCl (a, .inl (g.2.1 2, n, .inl (upd f i.toNatClampNeg x))) H1 → H1.size = H.size → (∀ q, q ≠ a → H1[q]? = H[q]?) → va_S (nF F) H0 H1 locs1 → W p l e R s m args below meth c H1 locs1 cells slots Q (F0 m (pc + 1) ls rest)) : W p l e R s m args below meth c H locs cells slots Q (F0 m pc ls (.int x :: .int i :: .ref a :: rest)) := by
  refine W.zast E.1 E.2.1 he ((E.2.2.2.2.2.1.2 2 _ rfl).1 n (fun j => .int (f j))) (fun q => by cases q) (by show ¬ (i < 0 ∨ (arrV _ _ _).slots.size ≤ _); rw [arrV_size]; exact hin) rfl rfl hdg fun H1 e z oq => ?_
  refine kk H1 _ ?_ z oq (hS0.put z oq ha)
  show H1[a]? = some (vp_cell _ _)
  rw [e, vp_cell_i, vp_cell_i, arrV_store]
  congr 2
  funext q
  by_cases hq : q = i.toNatClampNeg
  · subst hq
    simp [updV, upd]
    exact hx9
  · simp [updV, upd, hq]
theorem w_cast (E : EN p s m c cc nL args own g F) (hS0 : va_S (nF F) H0 H locs) {n : Nat} {f : Nat → Int32} (he : va_at g.1 vwCl (a, .inl (g.2.1 1, n, .inl f)) H) (ha : ¬ F a) {i x : Int32} (hx9 : narrow .char (.int x) = .int x) (hin : vp_in i n) (hdg : decode cc pc = .ok (.castore, 1))
    (kk : ∀ (H1 : Heap) (locs1 : List Loc), va_at g.1 vwCl (a, .inl (g.2.1 1, n, .inl (upd f i.toNatClampNeg x))) H1 → H1.size = H.size → (∀ q, q ≠ a → H1[q]? = H[q]?) → va_S (nF F) H0 H1 locs1 → W p l e R s m args below meth c H1 locs1 cells slots Q (F0 m (pc + 1) ls rest)) : W p l e R s m args below meth c H locs cells slots Q (F0 m pc ls (.int x :: .int i :: .ref a :: rest)) := by
  refine W.cast E.1 E.2.1 he ((E.2.2.2.2.2.1.2 1 _ rfl).1 n (fun j => .int (f j))) (fun q => by cases q) (by show ¬ (i < 0 ∨ (arrV _ _ _).slots.size ≤ _); rw [arrV_size]; exact hin) rfl rfl hdg fun H1 e z oq => ?_
  refine kk H1 _ ?_ z oq (hS0.put z oq ha)
  show H1[a]? = some (vp_cell _ _)
  rw [e, vp_cell_i, vp_cell_i, arrV_store]
  congr 2
  funext q
  by_cases hq : q = i.toNatClampNeg
  · subst hq
    simp [updV, upd]
    exact hx9
  · simp [updV, upd, hq]
end PT
end
section
set_option maxRecDepth 100000 in
theorem ok_X0_init : okI yX0_init cX0_init 2 none 1 := ⟨(⟨(lw_gi 77 rfl rfl), (lw_gi 435 rfl rfl), by decide +kernel, by decide +kernel, by decide +kernel⟩ : okC yX0_init cX0_init 2 none 1), (lw_gi 434 rfl rfl), rfl⟩
set_option maxRecDepth 100000 in
theorem ok_X1_init : okI yX1_init cX1_init 4 none 3 := ⟨(⟨(lw_gi 82 rfl rfl), (lw_gi 559 rfl rfl), by decide +kernel, by decide +kernel, by decide +kernel⟩ : okC yX1_init cX1_init 4 none 3), (lw_gi 558 rfl rfl), rfl⟩
set_option maxRecDepth 100000 in
theorem ok_X2_init : okI yX2_init cX2_init 3 none 2 := ⟨(⟨(lw_gi 69 rfl rfl), (lw_gi 282 rfl rfl), by decide +kernel, by decide +kernel, by decide +kernel⟩ : okC yX2_init cX2_init 3 none 2), (lw_gi 281 rfl rfl), rfl⟩
set_option maxRecDepth 100000 in
theorem ok_X2_cleanForOneTick : okV yX2_cleanForOneTick cX2_cleanForOneTick 1 none 0 := ⟨(⟨(lw_gi 69 rfl rfl), (lw_gi 752 rfl rfl), by decide +kernel, by decide +kernel, by decide +kernel⟩ : okC yX2_cleanForOneTick cX2_cleanForOneTick 1 none 0), (lw_gi 751 rfl rfl), (lw_gi 23 rfl rfl)⟩
set_option maxRecDepth 100000 in
theorem ok_X3_init : okI yX3_init cX3_init 5 none 4 := ⟨(⟨(lw_gi 81 rfl rfl), (lw_gi 520 rfl rfl), by decide +kernel, by decide +kernel, by decide +kernel⟩ : okC yX3_init cX3_init 5 none 4), (lw_gi 519 rfl rfl), rfl⟩
set_option maxRecDepth 100000 in
theorem ok_X3_isIn : okV yX3_isIn cX3_isIn 2 (some .boolean) 1 := ⟨(⟨(lw_gi 81 rfl rfl), (lw_gi 709 rfl rfl), by decide +kernel, by decide +kernel, by decide +kernel⟩ : okC yX3_isIn cX3_isIn 2 (some .boolean) 1), (lw_gi 708 rfl rfl), (lw_gi 16 rfl rfl)⟩
set_option maxRecDepth 100000 in
theorem ok_X3_waitsFor : okV yX3_waitsFor cX3_waitsFor 2 (some .boolean) 1 := ⟨(⟨(lw_gi 81 rfl rfl), (lw_gi 673 rfl rfl), by decide +kernel, by decide +kernel, by decide +kernel⟩ : okC yX3_waitsFor cX3_waitsFor 2 (some .boolean) 1), (lw_gi 672 rfl rfl), (lw_gi 14 rfl rfl)⟩
set_option maxRecDepth 100000 in
theorem ok_X4_init : okI yX4_init cX4_init 2 none 0 := ⟨(⟨(lw_gi 59 rfl rfl), (lw_gi 89 rfl rfl), by decide +kernel, by decide +kernel, by decide +kernel⟩ : okC yX4_init cX4_init 2 none 0), (lw_gi 88 rfl rfl), rfl⟩
set_option maxRecDepth 100000 in
theorem ok_X4_addLift : okV yX4_addLift cX4_addLift 3 (some .int) 1 := ⟨(⟨(lw_gi 59 rfl rfl), (lw_gi 189 rfl rfl), by decide +kernel, by decide +kernel, by decide +kernel⟩ : okC yX4_addLift cX4_addLift 3 (some .int) 1), (lw_gi 187 rfl rfl), (lw_gi 188 rfl rfl)⟩
set_option maxRecDepth 100000 in
theorem ok_X4_setTenant : okV yX4_setTenant cX4_setTenant 4 (some .int) 2 := ⟨(⟨(lw_gi 59 rfl rfl), (lw_gi 400 rfl rfl), by decide +kernel, by decide +kernel, by decide +kernel⟩ : okC yX4_setTenant cX4_setTenant 4 (some .int) 2), (lw_gi 398 rfl rfl), (lw_gi 399 rfl rfl)⟩
set_option maxRecDepth 100000 in
theorem ok_X4_setHours : okV yX4_setHours cX4_setHours 4 (some .int) 3 := ⟨(⟨(lw_gi 59 rfl rfl), (lw_gi 421 rfl rfl), by decide +kernel, by decide +kernel, by decide +kernel⟩ : okC yX4_setHours cX4_setHours 4 (some .int) 3), (lw_gi 419 rfl rfl), (lw_gi 420 rfl rfl)⟩
set_option maxRecDepth 100000 in
theorem ok_X4_addBadge : okV yX4_addBadge cX4_addBadge 3 (some .int) 1 := ⟨(⟨(lw_gi 59 rfl rfl), (lw_gi 429 rfl rfl), by decide +kernel, by decide +kernel, by decide +kernel⟩ : okC yX4_addBadge cX4_addBadge 3 (some .int) 1), (lw_gi 427 rfl rfl), (lw_gi 428 rfl rfl)⟩
set_option maxRecDepth 100000 in
theorem ok_X4_setRevoked : okV yX4_setRevoked cX4_setRevoked 5 (some .boolean) 2 := ⟨(⟨(lw_gi 59 rfl rfl), (lw_gi 452 rfl rfl), by decide +kernel, by decide +kernel, by decide +kernel⟩ : okC yX4_setRevoked cX4_setRevoked 5 (some .boolean) 2), (lw_gi 450 rfl rfl), (lw_gi 451 rfl rfl)⟩
set_option maxRecDepth 100000 in
theorem ok_X4_reason : okV yX4_reason cX4_reason 4 (some .char) 2 := ⟨(⟨(lw_gi 59 rfl rfl), (lw_gi 478 rfl rfl), by decide +kernel, by decide +kernel, by decide +kernel⟩ : okC yX4_reason cX4_reason 4 (some .char) 2), (lw_gi 476 rfl rfl), (lw_gi 477 rfl rfl)⟩
set_option maxRecDepth 100000 in
theorem ok_X4_call : okV yX4_call cX4_call 6 (some .int) 3 := ⟨(⟨(lw_gi 59 rfl rfl), (lw_gi 493 rfl rfl), by decide +kernel, by decide +kernel, by decide +kernel⟩ : okC yX4_call cX4_call 6 (some .int) 3), (lw_gi 491 rfl rfl), (lw_gi 492 rfl rfl)⟩
set_option maxRecDepth 100000 in
theorem ok_X4_state : okV yX4_state cX4_state 2 (some .char) 1 := ⟨(⟨(lw_gi 59 rfl rfl), (lw_gi 591 rfl rfl), by decide +kernel, by decide +kernel, by decide +kernel⟩ : okC yX4_state cX4_state 2 (some .char) 1), (lw_gi 589 rfl rfl), (lw_gi 590 rfl rfl)⟩
set_option maxRecDepth 100000 in
theorem ok_X4_floorOf : okV yX4_floorOf cX4_floorOf 3 (some .int) 1 := ⟨(⟨(lw_gi 59 rfl rfl), (lw_gi 603 rfl rfl), by decide +kernel, by decide +kernel, by decide +kernel⟩ : okC yX4_floorOf cX4_floorOf 3 (some .int) 1), (lw_gi 601 rfl rfl), (lw_gi 602 rfl rfl)⟩
set_option maxRecDepth 100000 in
theorem ok_X4_aim : okV yX4_aim cX4_aim 2 (some .int) 1 := ⟨(⟨(lw_gi 59 rfl rfl), (lw_gi 610 rfl rfl), by decide +kernel, by decide +kernel, by decide +kernel⟩ : okC yX4_aim cX4_aim 2 (some .int) 1), (lw_gi 608 rfl rfl), (lw_gi 609 rfl rfl)⟩
set_option maxRecDepth 100000 in
theorem ok_X4_liftOf : okV yX4_liftOf cX4_liftOf 3 (some .int) 1 := ⟨(⟨(lw_gi 59 rfl rfl), (lw_gi 618 rfl rfl), by decide +kernel, by decide +kernel, by decide +kernel⟩ : okC yX4_liftOf cX4_liftOf 3 (some .int) 1), (lw_gi 616 rfl rfl), (lw_gi 617 rfl rfl)⟩
set_option maxRecDepth 100000 in
theorem ok_X4_waited : okV yX4_waited cX4_waited 2 (some .int) 1 := ⟨(⟨(lw_gi 59 rfl rfl), (lw_gi 641 rfl rfl), by decide +kernel, by decide +kernel, by decide +kernel⟩ : okC yX4_waited cX4_waited 2 (some .int) 1), (lw_gi 639 rfl rfl), (lw_gi 640 rfl rfl)⟩
set_option maxRecDepth 100000 in
theorem ok_X4_waitedByLog : okV yX4_waitedByLog cX4_waitedByLog 2 (some .int) 1 := ⟨(⟨(lw_gi 59 rfl rfl), (lw_gi 648 rfl rfl), by decide +kernel, by decide +kernel, by decide +kernel⟩ : okC yX4_waitedByLog cX4_waitedByLog 2 (some .int) 1), (lw_gi 646 rfl rfl), (lw_gi 647 rfl rfl)⟩
set_option maxRecDepth 100000 in
theorem ok_X4_entries : okV yX4_entries cX4_entries 1 (some .int) 0 := ⟨(⟨(lw_gi 59 rfl rfl), (lw_gi 160 rfl rfl), by decide +kernel, by decide +kernel, by decide +kernel⟩ : okC yX4_entries cX4_entries 1 (some .int) 0), (lw_gi 158 rfl rfl), (lw_gi 159 rfl rfl)⟩
set_option maxRecDepth 100000 in
theorem ok_X4_callOff : okV yX4_callOff cX4_callOff 3 (some .int) 1 := ⟨(⟨(lw_gi 59 rfl rfl), (lw_gi 659 rfl rfl), by decide +kernel, by decide +kernel, by decide +kernel⟩ : okC yX4_callOff cX4_callOff 3 (some .int) 1), (lw_gi 657 rfl rfl), (lw_gi 658 rfl rfl)⟩
set_option maxRecDepth 100000 in
theorem ok_X4_service : okV yX4_service cX4_service 2 (some .char) 1 := ⟨(⟨(lw_gi 59 rfl rfl), (lw_gi 680 rfl rfl), by decide +kernel, by decide +kernel, by decide +kernel⟩ : okC yX4_service cX4_service 2 (some .char) 1), (lw_gi 678 rfl rfl), (lw_gi 679 rfl rfl)⟩
set_option maxRecDepth 100000 in
theorem ok_X4_floorOfLift : okV yX4_floorOfLift cX4_floorOfLift 2 (some .int) 1 := ⟨(⟨(lw_gi 59 rfl rfl), (lw_gi 687 rfl rfl), by decide +kernel, by decide +kernel, by decide +kernel⟩ : okC yX4_floorOfLift cX4_floorOfLift 2 (some .int) 1), (lw_gi 685 rfl rfl), (lw_gi 686 rfl rfl)⟩
set_option maxRecDepth 100000 in
theorem ok_X4_isUp : okV yX4_isUp cX4_isUp 2 (some .boolean) 1 := ⟨(⟨(lw_gi 59 rfl rfl), (lw_gi 694 rfl rfl), by decide +kernel, by decide +kernel, by decide +kernel⟩ : okC yX4_isUp cX4_isUp 2 (some .boolean) 1), (lw_gi 692 rfl rfl), (lw_gi 693 rfl rfl)⟩
set_option maxRecDepth 100000 in
theorem ok_X4_aboard : okV yX4_aboard cX4_aboard 2 (some .int) 1 := ⟨(⟨(lw_gi 59 rfl rfl), (lw_gi 701 rfl rfl), by decide +kernel, by decide +kernel, by decide +kernel⟩ : okC yX4_aboard cX4_aboard 2 (some .int) 1), (lw_gi 699 rfl rfl), (lw_gi 700 rfl rfl)⟩
set_option maxRecDepth 100000 in
theorem ok_X4_score : okV yX4_score cX4_score 4 (some .int) 2 := ⟨(⟨(lw_gi 59 rfl rfl), (lw_gi 716 rfl rfl), by decide +kernel, by decide +kernel, by decide +kernel⟩ : okC yX4_score cX4_score 4 (some .int) 2), (lw_gi 714 rfl rfl), (lw_gi 715 rfl rfl)⟩
set_option maxRecDepth 100000 in
theorem ok_X4_pass : okV yX4_pass cX4_pass 4 (some .int) 1 := ⟨(⟨(lw_gi 59 rfl rfl), (lw_gi 723 rfl rfl), by decide +kernel, by decide +kernel, by decide +kernel⟩ : okC yX4_pass cX4_pass 4 (some .int) 1), (lw_gi 721 rfl rfl), (lw_gi 722 rfl rfl)⟩
set_option maxRecDepth 100000 in
theorem ok_X4_time : okV yX4_time cX4_time 1 (some .int) 0 := ⟨(⟨(lw_gi 59 rfl rfl), (lw_gi 168 rfl rfl), by decide +kernel, by decide +kernel, by decide +kernel⟩ : okC yX4_time cX4_time 1 (some .int) 0), (lw_gi 166 rfl rfl), (lw_gi 167 rfl rfl)⟩
set_option maxRecDepth 100000 in
theorem ok_X4_alarm : okV yX4_alarm cX4_alarm 2 (some .int) 1 := ⟨(⟨(lw_gi 59 rfl rfl), (lw_gi 804 rfl rfl), by decide +kernel, by decide +kernel, by decide +kernel⟩ : okC yX4_alarm cX4_alarm 2 (some .int) 1), (lw_gi 802 rfl rfl), (lw_gi 803 rfl rfl)⟩
set_option maxRecDepth 100000 in
theorem ok_X4_isAlarm : okV yX4_isAlarm cX4_isAlarm 1 (some .boolean) 0 := ⟨(⟨(lw_gi 59 rfl rfl), (lw_gi 172 rfl rfl), by decide +kernel, by decide +kernel, by decide +kernel⟩ : okC yX4_isAlarm cX4_isAlarm 1 (some .boolean) 0), (lw_gi 170 rfl rfl), (lw_gi 171 rfl rfl)⟩
set_option maxRecDepth 100000 in
theorem ok_X4_turn : okV yX4_turn cX4_turn 2 (some .int) 0 := ⟨(⟨(lw_gi 59 rfl rfl), (lw_gi 816 rfl rfl), by decide +kernel, by decide +kernel, by decide +kernel⟩ : okC yX4_turn cX4_turn 2 (some .int) 0), (lw_gi 814 rfl rfl), (lw_gi 815 rfl rfl)⟩
set_option maxRecDepth 100000 in
theorem ok_X4_opened : okV yX4_opened cX4_opened 1 (some .int) 0 := ⟨(⟨(lw_gi 59 rfl rfl), (lw_gi 176 rfl rfl), by decide +kernel, by decide +kernel, by decide +kernel⟩ : okC yX4_opened cX4_opened 1 (some .int) 0), (lw_gi 174 rfl rfl), (lw_gi 175 rfl rfl)⟩
set_option maxRecDepth 100000 in
theorem ok_X4_refused : okV yX4_refused cX4_refused 1 (some .int) 0 := ⟨(⟨(lw_gi 59 rfl rfl), (lw_gi 180 rfl rfl), by decide +kernel, by decide +kernel, by decide +kernel⟩ : okC yX4_refused cX4_refused 1 (some .int) 0), (lw_gi 178 rfl rfl), (lw_gi 179 rfl rfl)⟩
set_option maxRecDepth 100000 in
theorem ok_X4_doneShare : okV yX4_doneShare cX4_doneShare 2 (some .float) 0 := ⟨(⟨(lw_gi 59 rfl rfl), (lw_gi 838 rfl rfl), by decide +kernel, by decide +kernel, by decide +kernel⟩ : okC yX4_doneShare cX4_doneShare 2 (some .float) 0), (lw_gi 836 rfl rfl), (lw_gi 837 rfl rfl)⟩
set_option maxRecDepth 100000 in
theorem ok_X4_meanWait : okV yX4_meanWait cX4_meanWait 3 (some .double) 0 := ⟨(⟨(lw_gi 59 rfl rfl), (lw_gi 848 rfl rfl), by decide +kernel, by decide +kernel, by decide +kernel⟩ : okC yX4_meanWait cX4_meanWait 3 (some .double) 0), (lw_gi 846 rfl rfl), (lw_gi 847 rfl rfl)⟩
set_option maxRecDepth 100000 in
theorem ok_X4_badgeNumbered : okV yX4_badgeNumbered cX4_badgeNumbered 2 (some (.object "LiftDesk$Badge")) 1 := ⟨(⟨(lw_gi 59 rfl rfl), (lw_gi 456 rfl rfl), by decide +kernel, by decide +kernel, by decide +kernel⟩ : okC yX4_badgeNumbered cX4_badgeNumbered 2 (some (.object "LiftDesk$Badge")) 1), (lw_gi 455 rfl rfl), (lw_gi 4 rfl rfl)⟩
set_option maxRecDepth 100000 in
theorem ok_X4_riderNumbered : okV yX4_riderNumbered cX4_riderNumbered 2 (some (.object "LiftDesk$Rider")) 1 := ⟨(⟨(lw_gi 59 rfl rfl), (lw_gi 595 rfl rfl), by decide +kernel, by decide +kernel, by decide +kernel⟩ : okC yX4_riderNumbered cX4_riderNumbered 2 (some (.object "LiftDesk$Rider")) 1), (lw_gi 594 rfl rfl), (lw_gi 10 rfl rfl)⟩
set_option maxRecDepth 100000 in
theorem ok_X4_liftNumbered : okV yX4_liftNumbered cX4_liftNumbered 2 (some (.object "LiftDesk$Lift")) 1 := ⟨(⟨(lw_gi 59 rfl rfl), (lw_gi 663 rfl rfl), by decide +kernel, by decide +kernel, by decide +kernel⟩ : okC yX4_liftNumbered cX4_liftNumbered 2 (some (.object "LiftDesk$Lift")) 1), (lw_gi 662 rfl rfl), (lw_gi 12 rfl rfl)⟩
set_option maxRecDepth 100000 in
theorem ok_X4_checkFloor : okS yX4_checkFloor cX4_checkFloor 1 none 1 := ⟨(⟨(lw_gi 59 rfl rfl), (lw_gi 481 rfl rfl), by decide +kernel, by decide +kernel, by decide +kernel⟩ : okC yX4_checkFloor cX4_checkFloor 1 none 1), (lw_gi 480 rfl rfl)⟩
set_option maxRecDepth 100000 in
theorem ok_X4_whyNot : okV yX4_whyNot cX4_whyNot 4 (some .char) 2 := ⟨(⟨(lw_gi 59 rfl rfl), (lw_gi 485 rfl rfl), by decide +kernel, by decide +kernel, by decide +kernel⟩ : okC yX4_whyNot cX4_whyNot 4 (some .char) 2), (lw_gi 484 rfl rfl), (lw_gi 5 rfl rfl)⟩
set_option maxRecDepth 100000 in
theorem ok_X4_hasRider : okV yX4_hasRider cX4_hasRider 3 (some .boolean) 1 := ⟨(⟨(lw_gi 59 rfl rfl), (lw_gi 514 rfl rfl), by decide +kernel, by decide +kernel, by decide +kernel⟩ : okC yX4_hasRider cX4_hasRider 3 (some .boolean) 1), (lw_gi 513 rfl rfl), (lw_gi 6 rfl rfl)⟩
set_option maxRecDepth 100000 in
theorem ok_X4_countAboard : okV yX4_countAboard cX4_countAboard 4 (some .int) 1 := ⟨(⟨(lw_gi 59 rfl rfl), (lw_gi 705 rfl rfl), by decide +kernel, by decide +kernel, by decide +kernel⟩ : okC yX4_countAboard cX4_countAboard 4 (some .int) 1), (lw_gi 704 rfl rfl), (lw_gi 15 rfl rfl)⟩
set_option maxRecDepth 100000 in
theorem ok_X4_hasRoom : okV yX4_hasRoom cX4_hasRoom 2 (some .boolean) 1 := ⟨(⟨(lw_gi 59 rfl rfl), (lw_gi 777 rfl rfl), by decide +kernel, by decide +kernel, by decide +kernel⟩ : okC yX4_hasRoom cX4_hasRoom 2 (some .boolean) 1), (lw_gi 776 rfl rfl), (lw_gi 28 rfl rfl)⟩
set_option maxRecDepth 100000 in
theorem ok_X4_note : okV yX4_note cX4_note 2 none 1 := ⟨(⟨(lw_gi 59 rfl rfl), (lw_gi 554 rfl rfl), by decide +kernel, by decide +kernel, by decide +kernel⟩ : okC yX4_note cX4_note 2 none 1), (lw_gi 553 rfl rfl), (lw_gi 7 rfl rfl)⟩
set_option maxRecDepth 100000 in
theorem ok_X4_ticksByLog : okV yX4_ticksByLog cX4_ticksByLog 5 (some .int) 1 := ⟨(⟨(lw_gi 59 rfl rfl), (lw_gi 652 rfl rfl), by decide +kernel, by decide +kernel, by decide +kernel⟩ : okC yX4_ticksByLog cX4_ticksByLog 5 (some .int) 1), (lw_gi 651 rfl rfl), (lw_gi 11 rfl rfl)⟩
set_option maxRecDepth 100000 in
theorem ok_X4_goAboard : okV yX4_goAboard cX4_goAboard 2 none 1 := ⟨(⟨(lw_gi 59 rfl rfl), (lw_gi 781 rfl rfl), by decide +kernel, by decide +kernel, by decide +kernel⟩ : okC yX4_goAboard cX4_goAboard 2 none 1), (lw_gi 780 rfl rfl), (lw_gi 29 rfl rfl)⟩
set_option maxRecDepth 100000 in
theorem ok_X4_finish : okV yX4_finish cX4_finish 3 none 2 := ⟨(⟨(lw_gi 59 rfl rfl), (lw_gi 769 rfl rfl), by decide +kernel, by decide +kernel, by decide +kernel⟩ : okC yX4_finish cX4_finish 3 none 2), (lw_gi 768 rfl rfl), (lw_gi 26 rfl rfl)⟩
set_option maxRecDepth 100000 in
theorem ok_X4_scoreOf : okV yX4_scoreOf cX4_scoreOf 5 (some .int) 2 := ⟨(⟨(lw_gi 59 rfl rfl), (lw_gi 581 rfl rfl), by decide +kernel, by decide +kernel, by decide +kernel⟩ : okC yX4_scoreOf cX4_scoreOf 5 (some .int) 2), (lw_gi 580 rfl rfl), (lw_gi 9 rfl rfl)⟩
set_option maxRecDepth 100000 in
theorem ok_X4_giveLift : okV yX4_giveLift cX4_giveLift 7 none 1 := ⟨(⟨(lw_gi 59 rfl rfl), (lw_gi 577 rfl rfl), by decide +kernel, by decide +kernel, by decide +kernel⟩ : okC yX4_giveLift cX4_giveLift 7 none 1), (lw_gi 576 rfl rfl), (lw_gi 8 rfl rfl)⟩
set_option maxRecDepth 100000 in
theorem ok_X4_giveLiftsToAll : okV yX4_giveLiftsToAll cX4_giveLiftsToAll 3 none 0 := ⟨(⟨(lw_gi 59 rfl rfl), (lw_gi 744 rfl rfl), by decide +kernel, by decide +kernel, by decide +kernel⟩ : okC yX4_giveLiftsToAll cX4_giveLiftsToAll 3 none 0), (lw_gi 743 rfl rfl), (lw_gi 21 rfl rfl)⟩
set_option maxRecDepth 100000 in
theorem ok_X4_giveLiftsInTurn : okV yX4_giveLiftsInTurn cX4_giveLiftsInTurn 4 none 0 := ⟨(⟨(lw_gi 59 rfl rfl), (lw_gi 732 rfl rfl), by decide +kernel, by decide +kernel, by decide +kernel⟩ : okC yX4_giveLiftsInTurn cX4_giveLiftsInTurn 4 none 0), (lw_gi 731 rfl rfl), (lw_gi 18 rfl rfl)⟩
set_option maxRecDepth 100000 in
theorem ok_X4_loseLift : okV yX4_loseLift cX4_loseLift 5 (some .int) 1 := ⟨(⟨(lw_gi 59 rfl rfl), (lw_gi 669 rfl rfl), by decide +kernel, by decide +kernel, by decide +kernel⟩ : okC yX4_loseLift cX4_loseLift 5 (some .int) 1), (lw_gi 668 rfl rfl), (lw_gi 13 rfl rfl)⟩
set_option maxRecDepth 100000 in
theorem ok_X4_passOneTick : okV yX4_passOneTick cX4_passOneTick 2 none 0 := ⟨(⟨(lw_gi 59 rfl rfl), (lw_gi 728 rfl rfl), by decide +kernel, by decide +kernel, by decide +kernel⟩ : okC yX4_passOneTick cX4_passOneTick 2 none 0), (lw_gi 727 rfl rfl), (lw_gi 17 rfl rfl)⟩
set_option maxRecDepth 100000 in
theorem ok_X4_countWaiting : okV yX4_countWaiting cX4_countWaiting 3 none 0 := ⟨(⟨(lw_gi 59 rfl rfl), (lw_gi 793 rfl rfl), by decide +kernel, by decide +kernel, by decide +kernel⟩ : okC yX4_countWaiting cX4_countWaiting 3 none 0), (lw_gi 792 rfl rfl), (lw_gi 32 rfl rfl)⟩
set_option maxRecDepth 100000 in
theorem ok_X4_runLift : okV yX4_runLift cX4_runLift 4 none 1 := ⟨(⟨(lw_gi 59 rfl rfl), (lw_gi 748 rfl rfl), by decide +kernel, by decide +kernel, by decide +kernel⟩ : okC yX4_runLift cX4_runLift 4 none 1), (lw_gi 747 rfl rfl), (lw_gi 22 rfl rfl)⟩
set_option maxRecDepth 100000 in
theorem ok_X4_letOut : okV yX4_letOut cX4_letOut 5 (some .boolean) 1 := ⟨(⟨(lw_gi 59 rfl rfl), (lw_gi 756 rfl rfl), by decide +kernel, by decide +kernel, by decide +kernel⟩ : okC yX4_letOut cX4_letOut 5 (some .boolean) 1), (lw_gi 755 rfl rfl), (lw_gi 24 rfl rfl)⟩
set_option maxRecDepth 100000 in
theorem ok_X4_letIn : okV yX4_letIn cX4_letIn 5 (some .boolean) 1 := ⟨(⟨(lw_gi 59 rfl rfl), (lw_gi 773 rfl rfl), by decide +kernel, by decide +kernel, by decide +kernel⟩ : okC yX4_letIn cX4_letIn 5 (some .boolean) 1), (lw_gi 772 rfl rfl), (lw_gi 27 rfl rfl)⟩
set_option maxRecDepth 100000 in
theorem ok_X4_move : okV yX4_move cX4_move 4 none 1 := ⟨(⟨(lw_gi 59 rfl rfl), (lw_gi 785 rfl rfl), by decide +kernel, by decide +kernel, by decide +kernel⟩ : okC yX4_move cX4_move 4 none 1), (lw_gi 784 rfl rfl), (lw_gi 30 rfl rfl)⟩
set_option maxRecDepth 100000 in
theorem ok_X4_hasAimTowards : okV yX4_hasAimTowards cX4_hasAimTowards 6 (some .boolean) 3 := ⟨(⟨(lw_gi 59 rfl rfl), (lw_gi 789 rfl rfl), by decide +kernel, by decide +kernel, by decide +kernel⟩ : okC yX4_hasAimTowards cX4_hasAimTowards 6 (some .boolean) 3), (lw_gi 788 rfl rfl), (lw_gi 31 rfl rfl)⟩
set_option maxRecDepth 100000 in
theorem ok_X4_sendAllToLobby : okV yX4_sendAllToLobby cX4_sendAllToLobby 3 none 0 := ⟨(⟨(lw_gi 59 rfl rfl), (lw_gi 809 rfl rfl), by decide +kernel, by decide +kernel, by decide +kernel⟩ : okC yX4_sendAllToLobby cX4_sendAllToLobby 3 none 0), (lw_gi 808 rfl rfl), (lw_gi 33 rfl rfl)⟩
set_option maxRecDepth 100000 in
theorem ok_X4_floorInTurn : okV yX4_floorInTurn cX4_floorInTurn 2 (some .int) 0 := ⟨(⟨(lw_gi 59 rfl rfl), (lw_gi 736 rfl rfl), by decide +kernel, by decide +kernel, by decide +kernel⟩ : okC yX4_floorInTurn cX4_floorInTurn 2 (some .int) 0), (lw_gi 735 rfl rfl), (lw_gi 19 rfl rfl)⟩
set_option maxRecDepth 100000 in
theorem ok_X4_isWaitedOn : okV yX4_isWaitedOn cX4_isWaitedOn 4 (some .boolean) 1 := ⟨(⟨(lw_gi 59 rfl rfl), (lw_gi 740 rfl rfl), by decide +kernel, by decide +kernel, by decide +kernel⟩ : okC yX4_isWaitedOn cX4_isWaitedOn 4 (some .boolean) 1), (lw_gi 739 rfl rfl), (lw_gi 20 rfl rfl)⟩
set_option maxRecDepth 100000 in
theorem ok_X5_thrown : okV yX5_thrown cX5_thrown 1 (some .int) 0 := ⟨(⟨(lw_gi 63 rfl rfl), (lw_gi 852 rfl rfl), by decide +kernel, by decide +kernel, by decide +kernel⟩ : okC yX5_thrown cX5_thrown 1 (some .int) 0), (lw_gi 850 rfl rfl), (lw_gi 851 rfl rfl)⟩
set_option maxRecDepth 100000 in
theorem ok_X5_fails : okV yX5_fails cX5_fails 2 (some .int) 1 := ⟨(⟨(lw_gi 63 rfl rfl), (lw_gi 956 rfl rfl), by decide +kernel, by decide +kernel, by decide +kernel⟩ : okC yX5_fails cX5_fails 2 (some .int) 1), (lw_gi 955 rfl rfl), (lw_gi 34 rfl rfl)⟩
set_option maxRecDepth 100000 in
theorem ok_X5_isWrong : okV yX5_isWrong cX5_isWrong 2 (some .boolean) 1 := ⟨(⟨(lw_gi 63 rfl rfl), (lw_gi 980 rfl rfl), by decide +kernel, by decide +kernel, by decide +kernel⟩ : okC yX5_isWrong cX5_isWrong 2 (some .boolean) 1), (lw_gi 979 rfl rfl), (lw_gi 36 rfl rfl)⟩
set_option maxRecDepth 100000 in
theorem ok_X5_isBetween : okS yX5_isBetween cX5_isBetween 3 (some .boolean) 3 := ⟨(⟨(lw_gi 63 rfl rfl), (lw_gi 952 rfl rfl), by decide +kernel, by decide +kernel, by decide +kernel⟩ : okC yX5_isBetween cX5_isBetween 3 (some .boolean) 3), (lw_gi 951 rfl rfl)⟩
set_option maxRecDepth 100000 in
theorem ok_X5_isFloor : okS yX5_isFloor cX5_isFloor 1 (some .boolean) 1 := ⟨(⟨(lw_gi 63 rfl rfl), (lw_gi 987 rfl rfl), by decide +kernel, by decide +kernel, by decide +kernel⟩ : okC yX5_isFloor cX5_isFloor 1 (some .boolean) 1), (lw_gi 986 rfl rfl)⟩
set_option maxRecDepth 100000 in
theorem ok_X5_init : okI yX5_init cX5_init 2 none 0 := ⟨(⟨(lw_gi 63 rfl rfl), (lw_gi 857 rfl rfl), by decide +kernel, by decide +kernel, by decide +kernel⟩ : okC yX5_init cX5_init 2 none 0), (lw_gi 856 rfl rfl), rfl⟩
set_option maxRecDepth 100000 in
theorem ok_X5_isBadge : okV yX5_isBadge cX5_isBadge 2 (some .boolean) 1 := ⟨(⟨(lw_gi 63 rfl rfl), (lw_gi 976 rfl rfl), by decide +kernel, by decide +kernel, by decide +kernel⟩ : okC yX5_isBadge cX5_isBadge 2 (some .boolean) 1), (lw_gi 975 rfl rfl), (lw_gi 35 rfl rfl)⟩
set_option maxRecDepth 100000 in
theorem ok_X5_isRider : okV yX5_isRider cX5_isRider 2 (some .boolean) 1 := ⟨(⟨(lw_gi 63 rfl rfl), (lw_gi 1020 rfl rfl), by decide +kernel, by decide +kernel, by decide +kernel⟩ : okC yX5_isRider cX5_isRider 2 (some .boolean) 1), (lw_gi 1019 rfl rfl), (lw_gi 42 rfl rfl)⟩
set_option maxRecDepth 100000 in
theorem ok_X5_isLift : okV yX5_isLift cX5_isLift 2 (some .boolean) 1 := ⟨(⟨(lw_gi 63 rfl rfl), (lw_gi 1057 rfl rfl), by decide +kernel, by decide +kernel, by decide +kernel⟩ : okC yX5_isLift cX5_isLift 2 (some .boolean) 1), (lw_gi 1056 rfl rfl), (lw_gi 44 rfl rfl)⟩
set_option maxRecDepth 100000 in
theorem ok_X5_addLift : okV yX5_addLift cX5_addLift 2 (some .int) 1 := ⟨(⟨(lw_gi 63 rfl rfl), (lw_gi 949 rfl rfl), by decide +kernel, by decide +kernel, by decide +kernel⟩ : okC yX5_addLift cX5_addLift 2 (some .int) 1), (lw_gi 947 rfl rfl), (lw_gi 948 rfl rfl)⟩
set_option maxRecDepth 100000 in
theorem ok_X5_setTenant : okV yX5_setTenant cX5_setTenant 4 (some .int) 2 := ⟨(⟨(lw_gi 63 rfl rfl), (lw_gi 960 rfl rfl), by decide +kernel, by decide +kernel, by decide +kernel⟩ : okC yX5_setTenant cX5_setTenant 4 (some .int) 2), (lw_gi 958 rfl rfl), (lw_gi 959 rfl rfl)⟩
set_option maxRecDepth 100000 in
theorem ok_X5_setHours : okV yX5_setHours cX5_setHours 4 (some .int) 3 := ⟨(⟨(lw_gi 63 rfl rfl), (lw_gi 964 rfl rfl), by decide +kernel, by decide +kernel, by decide +kernel⟩ : okC yX5_setHours cX5_setHours 4 (some .int) 3), (lw_gi 962 rfl rfl), (lw_gi 963 rfl rfl)⟩
set_option maxRecDepth 100000 in
theorem ok_X5_addBadge : okV yX5_addBadge cX5_addBadge 2 (some .int) 1 := ⟨(⟨(lw_gi 63 rfl rfl), (lw_gi 968 rfl rfl), by decide +kernel, by decide +kernel, by decide +kernel⟩ : okC yX5_addBadge cX5_addBadge 2 (some .int) 1), (lw_gi 966 rfl rfl), (lw_gi 967 rfl rfl)⟩
set_option maxRecDepth 100000 in
theorem ok_X5_setRevoked : okV yX5_setRevoked cX5_setRevoked 4 (some .boolean) 2 := ⟨(⟨(lw_gi 63 rfl rfl), (lw_gi 972 rfl rfl), by decide +kernel, by decide +kernel, by decide +kernel⟩ : okC yX5_setRevoked cX5_setRevoked 4 (some .boolean) 2), (lw_gi 970 rfl rfl), (lw_gi 971 rfl rfl)⟩
set_option maxRecDepth 100000 in
theorem ok_X5_why : okV yX5_why cX5_why 3 (some .char) 2 := ⟨(⟨(lw_gi 63 rfl rfl), (lw_gi 991 rfl rfl), by decide +kernel, by decide +kernel, by decide +kernel⟩ : okC yX5_why cX5_why 3 (some .char) 2), (lw_gi 990 rfl rfl), (lw_gi 37 rfl rfl)⟩
set_option maxRecDepth 100000 in
theorem ok_X5_reason : okV yX5_reason cX5_reason 3 (some .char) 2 := ⟨(⟨(lw_gi 63 rfl rfl), (lw_gi 984 rfl rfl), by decide +kernel, by decide +kernel, by decide +kernel⟩ : okC yX5_reason cX5_reason 3 (some .char) 2), (lw_gi 982 rfl rfl), (lw_gi 983 rfl rfl)⟩
set_option maxRecDepth 100000 in
theorem ok_X5_aboardMany : okV yX5_aboardMany cX5_aboardMany 4 (some .int) 1 := ⟨(⟨(lw_gi 63 rfl rfl), (lw_gi 1085 rfl rfl), by decide +kernel, by decide +kernel, by decide +kernel⟩ : okC yX5_aboardMany cX5_aboardMany 4 (some .int) 1), (lw_gi 1084 rfl rfl), (lw_gi 47 rfl rfl)⟩
set_option maxRecDepth 100000 in
theorem ok_X5_scoreOf : okV yX5_scoreOf cX5_scoreOf 5 (some .int) 2 := ⟨(⟨(lw_gi 63 rfl rfl), (lw_gi 1007 rfl rfl), by decide +kernel, by decide +kernel, by decide +kernel⟩ : okC yX5_scoreOf cX5_scoreOf 5 (some .int) 2), (lw_gi 1006 rfl rfl), (lw_gi 40 rfl rfl)⟩
set_option maxRecDepth 100000 in
theorem ok_X5_gives : okV yX5_gives cX5_gives 4 none 1 := ⟨(⟨(lw_gi 63 rfl rfl), (lw_gi 1003 rfl rfl), by decide +kernel, by decide +kernel, by decide +kernel⟩ : okC yX5_gives cX5_gives 4 none 1), (lw_gi 1002 rfl rfl), (lw_gi 39 rfl rfl)⟩
set_option maxRecDepth 100000 in
theorem ok_X5_ends : okV yX5_ends cX5_ends 3 none 2 := ⟨(⟨(lw_gi 63 rfl rfl), (lw_gi 1117 rfl rfl), by decide +kernel, by decide +kernel, by decide +kernel⟩ : okC yX5_ends cX5_ends 3 none 2), (lw_gi 1116 rfl rfl), (lw_gi 53 rfl rfl)⟩
set_option maxRecDepth 100000 in
theorem ok_X5_isOut : okV yX5_isOut cX5_isOut 3 (some .boolean) 1 := ⟨(⟨(lw_gi 63 rfl rfl), (lw_gi 999 rfl rfl), by decide +kernel, by decide +kernel, by decide +kernel⟩ : okC yX5_isOut cX5_isOut 3 (some .boolean) 1), (lw_gi 998 rfl rfl), (lw_gi 38 rfl rfl)⟩
set_option maxRecDepth 100000 in
theorem ok_X5_call : okV yX5_call cX5_call 5 (some .int) 3 := ⟨(⟨(lw_gi 63 rfl rfl), (lw_gi 995 rfl rfl), by decide +kernel, by decide +kernel, by decide +kernel⟩ : okC yX5_call cX5_call 5 (some .int) 3), (lw_gi 993 rfl rfl), (lw_gi 994 rfl rfl)⟩
set_option maxRecDepth 100000 in
theorem ok_X5_isNobody : okV yX5_isNobody cX5_isNobody 2 (some .boolean) 1 := ⟨(⟨(lw_gi 63 rfl rfl), (lw_gi 1016 rfl rfl), by decide +kernel, by decide +kernel, by decide +kernel⟩ : okC yX5_isNobody cX5_isNobody 2 (some .boolean) 1), (lw_gi 1015 rfl rfl), (lw_gi 41 rfl rfl)⟩
set_option maxRecDepth 100000 in
theorem ok_X5_state : okV yX5_state cX5_state 2 (some .char) 1 := ⟨(⟨(lw_gi 63 rfl rfl), (lw_gi 1012 rfl rfl), by decide +kernel, by decide +kernel, by decide +kernel⟩ : okC yX5_state cX5_state 2 (some .char) 1), (lw_gi 1010 rfl rfl), (lw_gi 1011 rfl rfl)⟩
set_option maxRecDepth 100000 in
theorem ok_X5_floorOf : okV yX5_floorOf cX5_floorOf 2 (some .int) 1 := ⟨(⟨(lw_gi 63 rfl rfl), (lw_gi 1024 rfl rfl), by decide +kernel, by decide +kernel, by decide +kernel⟩ : okC yX5_floorOf cX5_floorOf 2 (some .int) 1), (lw_gi 1022 rfl rfl), (lw_gi 1023 rfl rfl)⟩
set_option maxRecDepth 100000 in
theorem ok_X5_aim : okV yX5_aim cX5_aim 2 (some .int) 1 := ⟨(⟨(lw_gi 63 rfl rfl), (lw_gi 1028 rfl rfl), by decide +kernel, by decide +kernel, by decide +kernel⟩ : okC yX5_aim cX5_aim 2 (some .int) 1), (lw_gi 1026 rfl rfl), (lw_gi 1027 rfl rfl)⟩
set_option maxRecDepth 100000 in
theorem ok_X5_liftOf : okV yX5_liftOf cX5_liftOf 2 (some .int) 1 := ⟨(⟨(lw_gi 63 rfl rfl), (lw_gi 1032 rfl rfl), by decide +kernel, by decide +kernel, by decide +kernel⟩ : okC yX5_liftOf cX5_liftOf 2 (some .int) 1), (lw_gi 1030 rfl rfl), (lw_gi 1031 rfl rfl)⟩
set_option maxRecDepth 100000 in
theorem ok_X5_waitedBy : okV yX5_waitedBy cX5_waitedBy 2 (some .int) 1 := ⟨(⟨(lw_gi 63 rfl rfl), (lw_gi 1040 rfl rfl), by decide +kernel, by decide +kernel, by decide +kernel⟩ : okC yX5_waitedBy cX5_waitedBy 2 (some .int) 1), (lw_gi 1039 rfl rfl), (lw_gi 43 rfl rfl)⟩
set_option maxRecDepth 100000 in
theorem ok_X5_waited : okV yX5_waited cX5_waited 2 (some .int) 1 := ⟨(⟨(lw_gi 63 rfl rfl), (lw_gi 1036 rfl rfl), by decide +kernel, by decide +kernel, by decide +kernel⟩ : okC yX5_waited cX5_waited 2 (some .int) 1), (lw_gi 1034 rfl rfl), (lw_gi 1035 rfl rfl)⟩
set_option maxRecDepth 100000 in
theorem ok_X5_waitedByLog : okV yX5_waitedByLog cX5_waitedByLog 2 (some .int) 1 := ⟨(⟨(lw_gi 63 rfl rfl), (lw_gi 1044 rfl rfl), by decide +kernel, by decide +kernel, by decide +kernel⟩ : okC yX5_waitedByLog cX5_waitedByLog 2 (some .int) 1), (lw_gi 1042 rfl rfl), (lw_gi 1043 rfl rfl)⟩
set_option maxRecDepth 100000 in
theorem ok_X5_entries : okV yX5_entries cX5_entries 1 (some .int) 0 := ⟨(⟨(lw_gi 63 rfl rfl), (lw_gi 1049 rfl rfl), by decide +kernel, by decide +kernel, by decide +kernel⟩ : okC yX5_entries cX5_entries 1 (some .int) 0), (lw_gi 1047 rfl rfl), (lw_gi 1048 rfl rfl)⟩
set_option maxRecDepth 100000 in
theorem ok_X5_frees : okV yX5_frees cX5_frees 4 (some .int) 1 := ⟨(⟨(lw_gi 63 rfl rfl), (lw_gi 1061 rfl rfl), by decide +kernel, by decide +kernel, by decide +kernel⟩ : okC yX5_frees cX5_frees 4 (some .int) 1), (lw_gi 1060 rfl rfl), (lw_gi 45 rfl rfl)⟩
set_option maxRecDepth 100000 in
theorem ok_X5_callOff : okV yX5_callOff cX5_callOff 2 (some .int) 1 := ⟨(⟨(lw_gi 63 rfl rfl), (lw_gi 1053 rfl rfl), by decide +kernel, by decide +kernel, by decide +kernel⟩ : okC yX5_callOff cX5_callOff 2 (some .int) 1), (lw_gi 1051 rfl rfl), (lw_gi 1052 rfl rfl)⟩
set_option maxRecDepth 100000 in
theorem ok_X5_isNoLift : okV yX5_isNoLift cX5_isNoLift 2 (some .boolean) 1 := ⟨(⟨(lw_gi 63 rfl rfl), (lw_gi 1069 rfl rfl), by decide +kernel, by decide +kernel, by decide +kernel⟩ : okC yX5_isNoLift cX5_isNoLift 2 (some .boolean) 1), (lw_gi 1068 rfl rfl), (lw_gi 46 rfl rfl)⟩
set_option maxRecDepth 100000 in
theorem ok_X5_service : okV yX5_service cX5_service 2 (some .char) 1 := ⟨(⟨(lw_gi 63 rfl rfl), (lw_gi 1065 rfl rfl), by decide +kernel, by decide +kernel, by decide +kernel⟩ : okC yX5_service cX5_service 2 (some .char) 1), (lw_gi 1063 rfl rfl), (lw_gi 1064 rfl rfl)⟩
set_option maxRecDepth 100000 in
theorem ok_X5_floorOfLift : okV yX5_floorOfLift cX5_floorOfLift 2 (some .int) 1 := ⟨(⟨(lw_gi 63 rfl rfl), (lw_gi 1073 rfl rfl), by decide +kernel, by decide +kernel, by decide +kernel⟩ : okC yX5_floorOfLift cX5_floorOfLift 2 (some .int) 1), (lw_gi 1071 rfl rfl), (lw_gi 1072 rfl rfl)⟩
set_option maxRecDepth 100000 in
theorem ok_X5_isUp : okV yX5_isUp cX5_isUp 2 (some .boolean) 1 := ⟨(⟨(lw_gi 63 rfl rfl), (lw_gi 1077 rfl rfl), by decide +kernel, by decide +kernel, by decide +kernel⟩ : okC yX5_isUp cX5_isUp 2 (some .boolean) 1), (lw_gi 1075 rfl rfl), (lw_gi 1076 rfl rfl)⟩
set_option maxRecDepth 100000 in
theorem ok_X5_aboard : okV yX5_aboard cX5_aboard 2 (some .int) 1 := ⟨(⟨(lw_gi 63 rfl rfl), (lw_gi 1081 rfl rfl), by decide +kernel, by decide +kernel, by decide +kernel⟩ : okC yX5_aboard cX5_aboard 2 (some .int) 1), (lw_gi 1079 rfl rfl), (lw_gi 1080 rfl rfl)⟩
set_option maxRecDepth 100000 in
theorem ok_X5_score : okV yX5_score cX5_score 3 (some .int) 2 := ⟨(⟨(lw_gi 63 rfl rfl), (lw_gi 1089 rfl rfl), by decide +kernel, by decide +kernel, by decide +kernel⟩ : okC yX5_score cX5_score 3 (some .int) 2), (lw_gi 1087 rfl rfl), (lw_gi 1088 rfl rfl)⟩
set_option maxRecDepth 100000 in
theorem ok_X5_opens : okV yX5_opens cX5_opens 4 (some .boolean) 1 := ⟨(⟨(lw_gi 63 rfl rfl), (lw_gi 1113 rfl rfl), by decide +kernel, by decide +kernel, by decide +kernel⟩ : okC yX5_opens cX5_opens 4 (some .boolean) 1), (lw_gi 1112 rfl rfl), (lw_gi 52 rfl rfl)⟩
set_option maxRecDepth 100000 in
theorem ok_X5_isAim : okV yX5_isAim cX5_isAim 4 (some .boolean) 3 := ⟨(⟨(lw_gi 63 rfl rfl), (lw_gi 1129 rfl rfl), by decide +kernel, by decide +kernel, by decide +kernel⟩ : okC yX5_isAim cX5_isAim 4 (some .boolean) 3), (lw_gi 1128 rfl rfl), (lw_gi 56 rfl rfl)⟩
set_option maxRecDepth 100000 in
theorem ok_X5_hasAim : okV yX5_hasAim cX5_hasAim 6 (some .boolean) 3 := ⟨(⟨(lw_gi 63 rfl rfl), (lw_gi 1125 rfl rfl), by decide +kernel, by decide +kernel, by decide +kernel⟩ : okC yX5_hasAim cX5_hasAim 6 (some .boolean) 3), (lw_gi 1124 rfl rfl), (lw_gi 55 rfl rfl)⟩
set_option maxRecDepth 100000 in
theorem ok_X5_goes : okV yX5_goes cX5_goes 4 none 1 := ⟨(⟨(lw_gi 63 rfl rfl), (lw_gi 1121 rfl rfl), by decide +kernel, by decide +kernel, by decide +kernel⟩ : okC yX5_goes cX5_goes 4 none 1), (lw_gi 1120 rfl rfl), (lw_gi 54 rfl rfl)⟩
set_option maxRecDepth 100000 in
theorem ok_X5_works : okV yX5_works cX5_works 2 none 1 := ⟨(⟨(lw_gi 63 rfl rfl), (lw_gi 1109 rfl rfl), by decide +kernel, by decide +kernel, by decide +kernel⟩ : okC yX5_works cX5_works 2 none 1), (lw_gi 1108 rfl rfl), (lw_gi 51 rfl rfl)⟩
set_option maxRecDepth 100000 in
theorem ok_X5_isWaiting : okV yX5_isWaiting cX5_isWaiting 3 (some .boolean) 1 := ⟨(⟨(lw_gi 63 rfl rfl), (lw_gi 1105 rfl rfl), by decide +kernel, by decide +kernel, by decide +kernel⟩ : okC yX5_isWaiting cX5_isWaiting 3 (some .boolean) 1), (lw_gi 1104 rfl rfl), (lw_gi 50 rfl rfl)⟩
set_option maxRecDepth 100000 in
theorem ok_X5_turnNow : okV yX5_turnNow cX5_turnNow 2 (some .int) 0 := ⟨(⟨(lw_gi 63 rfl rfl), (lw_gi 1101 rfl rfl), by decide +kernel, by decide +kernel, by decide +kernel⟩ : okC yX5_turnNow cX5_turnNow 2 (some .int) 0), (lw_gi 1100 rfl rfl), (lw_gi 49 rfl rfl)⟩
set_option maxRecDepth 100000 in
theorem ok_X5_outMany : okV yX5_outMany cX5_outMany 3 (some .int) 0 := ⟨(⟨(lw_gi 63 rfl rfl), (lw_gi 1133 rfl rfl), by decide +kernel, by decide +kernel, by decide +kernel⟩ : okC yX5_outMany cX5_outMany 3 (some .int) 0), (lw_gi 1132 rfl rfl), (lw_gi 57 rfl rfl)⟩
set_option maxRecDepth 100000 in
theorem ok_X5_passesOne : okV yX5_passesOne cX5_passesOne 3 none 0 := ⟨(⟨(lw_gi 63 rfl rfl), (lw_gi 1097 rfl rfl), by decide +kernel, by decide +kernel, by decide +kernel⟩ : okC yX5_passesOne cX5_passesOne 3 none 0), (lw_gi 1096 rfl rfl), (lw_gi 48 rfl rfl)⟩
set_option maxRecDepth 100000 in
theorem ok_X5_pass : okV yX5_pass cX5_pass 4 (some .int) 1 := ⟨(⟨(lw_gi 63 rfl rfl), (lw_gi 1093 rfl rfl), by decide +kernel, by decide +kernel, by decide +kernel⟩ : okC yX5_pass cX5_pass 4 (some .int) 1), (lw_gi 1091 rfl rfl), (lw_gi 1092 rfl rfl)⟩
set_option maxRecDepth 100000 in
theorem ok_X5_time : okV yX5_time cX5_time 1 (some .int) 0 := ⟨(⟨(lw_gi 63 rfl rfl), (lw_gi 1137 rfl rfl), by decide +kernel, by decide +kernel, by decide +kernel⟩ : okC yX5_time cX5_time 1 (some .int) 0), (lw_gi 1135 rfl rfl), (lw_gi 1136 rfl rfl)⟩
set_option maxRecDepth 100000 in
theorem ok_X5_alarm : okV yX5_alarm cX5_alarm 3 (some .int) 1 := ⟨(⟨(lw_gi 63 rfl rfl), (lw_gi 1141 rfl rfl), by decide +kernel, by decide +kernel, by decide +kernel⟩ : okC yX5_alarm cX5_alarm 3 (some .int) 1), (lw_gi 1139 rfl rfl), (lw_gi 1140 rfl rfl)⟩
set_option maxRecDepth 100000 in
theorem ok_X5_isAlarm : okV yX5_isAlarm cX5_isAlarm 1 (some .boolean) 0 := ⟨(⟨(lw_gi 63 rfl rfl), (lw_gi 1145 rfl rfl), by decide +kernel, by decide +kernel, by decide +kernel⟩ : okC yX5_isAlarm cX5_isAlarm 1 (some .boolean) 0), (lw_gi 1143 rfl rfl), (lw_gi 1144 rfl rfl)⟩
set_option maxRecDepth 100000 in
theorem ok_X5_turn : okV yX5_turn cX5_turn 2 (some .int) 0 := ⟨(⟨(lw_gi 63 rfl rfl), (lw_gi 1149 rfl rfl), by decide +kernel, by decide +kernel, by decide +kernel⟩ : okC yX5_turn cX5_turn 2 (some .int) 0), (lw_gi 1147 rfl rfl), (lw_gi 1148 rfl rfl)⟩
set_option maxRecDepth 100000 in
theorem ok_X5_opened : okV yX5_opened cX5_opened 1 (some .int) 0 := ⟨(⟨(lw_gi 63 rfl rfl), (lw_gi 1153 rfl rfl), by decide +kernel, by decide +kernel, by decide +kernel⟩ : okC yX5_opened cX5_opened 1 (some .int) 0), (lw_gi 1151 rfl rfl), (lw_gi 1152 rfl rfl)⟩
set_option maxRecDepth 100000 in
theorem ok_X5_refused : okV yX5_refused cX5_refused 1 (some .int) 0 := ⟨(⟨(lw_gi 63 rfl rfl), (lw_gi 1157 rfl rfl), by decide +kernel, by decide +kernel, by decide +kernel⟩ : okC yX5_refused cX5_refused 1 (some .int) 0), (lw_gi 1155 rfl rfl), (lw_gi 1156 rfl rfl)⟩
set_option maxRecDepth 100000 in
theorem ok_X5_doneShare : okV yX5_doneShare cX5_doneShare 1 (some .float) 0 := ⟨(⟨(lw_gi 63 rfl rfl), (lw_gi 1161 rfl rfl), by decide +kernel, by decide +kernel, by decide +kernel⟩ : okC yX5_doneShare cX5_doneShare 1 (some .float) 0), (lw_gi 1159 rfl rfl), (lw_gi 1160 rfl rfl)⟩
set_option maxRecDepth 100000 in
theorem ok_X5_meanWait : okV yX5_meanWait cX5_meanWait 3 (some .double) 0 := ⟨(⟨(lw_gi 63 rfl rfl), (lw_gi 1165 rfl rfl), by decide +kernel, by decide +kernel, by decide +kernel⟩ : okC yX5_meanWait cX5_meanWait 3 (some .double) 0), (lw_gi 1163 rfl rfl), (lw_gi 1164 rfl rfl)⟩
set_option maxRecDepth 100000 in
theorem ok_Jx00060_init_a7421 : okI yJx00060_init_a7421 cJx00060_init_a7421 2 none 1 := ⟨(⟨(lw_gi 75 rfl rfl), (lw_gi 376 rfl rfl), by decide +kernel, by decide +kernel, by decide +kernel⟩ : okC yJx00060_init_a7421 cJx00060_init_a7421 2 none 1), (lw_gi 375 rfl rfl), rfl⟩
set_option maxRecDepth 100000 in
theorem ok_J9_abs_0f7a4 : okS yJ9_abs_0f7a4 cJ9_abs_0f7a4 1 (some .int) 1 := ⟨(⟨(lw_gi 71 rfl rfl), (lw_gi 584 rfl rfl), by decide +kernel, by decide +kernel, by decide +kernel⟩ : okC yJ9_abs_0f7a4 cJ9_abs_0f7a4 1 (some .int) 1), (lw_gi 583 rfl rfl)⟩
set_option maxRecDepth 100000 in
theorem ok_J9_max_7cf53 : okS yJ9_max_7cf53 cJ9_max_7cf53 2 (some .int) 2 := ⟨(⟨(lw_gi 71 rfl rfl), (lw_gi 330 rfl rfl), by decide +kernel, by decide +kernel, by decide +kernel⟩ : okC yJ9_max_7cf53 cJ9_max_7cf53 2 (some .int) 2), (lw_gi 329 rfl rfl)⟩
set_option maxRecDepth 100000 in
theorem ok_J9_min_7cf53 : okS yJ9_min_7cf53 cJ9_min_7cf53 2 (some .int) 2 := ⟨(⟨(lw_gi 71 rfl rfl), (lw_gi 364 rfl rfl), by decide +kernel, by decide +kernel, by decide +kernel⟩ : okC yJ9_min_7cf53 cJ9_min_7cf53 2 (some .int) 2), (lw_gi 363 rfl rfl)⟩
set_option maxRecDepth 100000 in
theorem ok_Jxa1e45_init_da8c8 : okI yJxa1e45_init_da8c8 cJxa1e45_init_da8c8 1 none 0 := ⟨(⟨(lw_gi 60 rfl rfl), (lw_gi 103 rfl rfl), by decide +kernel, by decide +kernel, by decide +kernel⟩ : okC yJxa1e45_init_da8c8 cJxa1e45_init_da8c8 1 none 0), (lw_gi 102 rfl rfl), rfl⟩
set_option maxRecDepth 100000 in
theorem ok_Jxc12de_init_da8c8 : okI yJxc12de_init_da8c8 cJxc12de_init_da8c8 1 none 0 := ⟨(⟨(lw_gi 61 rfl rfl), (lw_gi 100 rfl rfl), by decide +kernel, by decide +kernel, by decide +kernel⟩ : okC yJxc12de_init_da8c8 cJxc12de_init_da8c8 1 none 0), (lw_gi 99 rfl rfl), rfl⟩
set_option maxRecDepth 100000 in
theorem ok_Jx4a65c_init_da8c8 : okI yJx4a65c_init_da8c8 cJx4a65c_init_da8c8 1 none 0 := ⟨(⟨(lw_gi 62 rfl rfl), (lw_gi 97 rfl rfl), by decide +kernel, by decide +kernel, by decide +kernel⟩ : okC yJx4a65c_init_da8c8 cJx4a65c_init_da8c8 1 none 0), (lw_gi 96 rfl rfl), rfl⟩
set_option maxRecDepth 100000 in
theorem ok_Jx4a65c_grow_92f84 : okV yJx4a65c_grow_92f84 cJx4a65c_grow_92f84 4 (some (.array (.object "java/lang/Object"))) 1 := ⟨(⟨(lw_gi 62 rfl rfl), (lw_gi 324 rfl rfl), by decide +kernel, by decide +kernel, by decide +kernel⟩ : okC yJx4a65c_grow_92f84 cJx4a65c_grow_92f84 4 (some (.array (.object "java/lang/Object"))) 1), (lw_gi 323 rfl rfl), (lw_gi 3 rfl rfl)⟩
set_option maxRecDepth 100000 in
theorem ok_Jx4a65c_grow_d5877 : okV yJx4a65c_grow_d5877 cJx4a65c_grow_d5877 1 (some (.array (.object "java/lang/Object"))) 0 := ⟨(⟨(lw_gi 62 rfl rfl), (lw_gi 320 rfl rfl), by decide +kernel, by decide +kernel, by decide +kernel⟩ : okC yJx4a65c_grow_d5877 cJx4a65c_grow_d5877 1 (some (.array (.object "java/lang/Object"))) 0), (lw_gi 319 rfl rfl), (lw_gi 2 rfl rfl)⟩
set_option maxRecDepth 100000 in
theorem ok_Jx4a65c_size_8abf5 : okV yJx4a65c_size_8abf5 cJx4a65c_size_8abf5 1 (some .int) 0 := ⟨(⟨(lw_gi 62 rfl rfl), (lw_gi 164 rfl rfl), by decide +kernel, by decide +kernel, by decide +kernel⟩ : okC yJx4a65c_size_8abf5 cJx4a65c_size_8abf5 1 (some .int) 0), (lw_gi 162 rfl rfl), (lw_gi 163 rfl rfl)⟩
set_option maxRecDepth 100000 in
theorem ok_Jx4a65c_isEmpty_aae02 : okV yJx4a65c_isEmpty_aae02 cJx4a65c_isEmpty_aae02 1 (some .boolean) 0 := ⟨(⟨(lw_gi 62 rfl rfl), (lw_gi 797 rfl rfl), by decide +kernel, by decide +kernel, by decide +kernel⟩ : okC yJx4a65c_isEmpty_aae02 cJx4a65c_isEmpty_aae02 1 (some .boolean) 0), (lw_gi 795 rfl rfl), (lw_gi 796 rfl rfl)⟩
set_option maxRecDepth 100000 in
theorem ok_Jx4a65c_elementData_915e3 : okV yJx4a65c_elementData_915e3 cJx4a65c_elementData_915e3 2 (some (.object "java/lang/Object")) 1 := ⟨(⟨(lw_gi 62 rfl rfl), (lw_gi 471 rfl rfl), by decide +kernel, by decide +kernel, by decide +kernel⟩ : okC yJx4a65c_elementData_915e3 cJx4a65c_elementData_915e3 2 (some (.object "java/lang/Object")) 1), (lw_gi 469 rfl rfl), (lw_gi 470 rfl rfl)⟩
set_option maxRecDepth 100000 in
theorem ok_Jx4a65c_get_915e3 : okV yJx4a65c_get_915e3 cJx4a65c_get_915e3 2 (some (.object "java/lang/Object")) 1 := ⟨(⟨(lw_gi 62 rfl rfl), (lw_gi 461 rfl rfl), by decide +kernel, by decide +kernel, by decide +kernel⟩ : okC yJx4a65c_get_915e3 cJx4a65c_get_915e3 2 (some (.object "java/lang/Object")) 1), (lw_gi 459 rfl rfl), (lw_gi 460 rfl rfl)⟩
set_option maxRecDepth 100000 in
theorem ok_Jx4a65c_add_72be8 : okV yJx4a65c_add_72be8 cJx4a65c_add_72be8 4 none 3 := ⟨(⟨(lw_gi 62 rfl rfl), (lw_gi 316 rfl rfl), by decide +kernel, by decide +kernel, by decide +kernel⟩ : okC yJx4a65c_add_72be8 cJx4a65c_add_72be8 4 none 3), (lw_gi 315 rfl rfl), (lw_gi 1 rfl rfl)⟩
set_option maxRecDepth 100000 in
theorem ok_Jx4a65c_add_9ea2d : okV yJx4a65c_add_9ea2d cJx4a65c_add_9ea2d 2 (some .boolean) 1 := ⟨(⟨(lw_gi 62 rfl rfl), (lw_gi 312 rfl rfl), by decide +kernel, by decide +kernel, by decide +kernel⟩ : okC yJx4a65c_add_9ea2d cJx4a65c_add_9ea2d 2 (some .boolean) 1), (lw_gi 310 rfl rfl), (lw_gi 311 rfl rfl)⟩
set_option maxRecDepth 100000 in
theorem ok_Jx4a65c_remove_915e3 : okV yJx4a65c_remove_915e3 cJx4a65c_remove_915e3 4 (some (.object "java/lang/Object")) 1 := ⟨(⟨(lw_gi 62 rfl rfl), (lw_gi 760 rfl rfl), by decide +kernel, by decide +kernel, by decide +kernel⟩ : okC yJx4a65c_remove_915e3 cJx4a65c_remove_915e3 4 (some (.object "java/lang/Object")) 1), (lw_gi 758 rfl rfl), (lw_gi 759 rfl rfl)⟩
set_option maxRecDepth 100000 in
theorem ok_Jx4a65c_fastRemove_b59b0 : okV yJx4a65c_fastRemove_b59b0 cJx4a65c_fastRemove_b59b0 4 none 2 := ⟨(⟨(lw_gi 62 rfl rfl), (lw_gi 764 rfl rfl), by decide +kernel, by decide +kernel, by decide +kernel⟩ : okC yJx4a65c_fastRemove_b59b0 cJx4a65c_fastRemove_b59b0 4 none 2), (lw_gi 763 rfl rfl), (lw_gi 25 rfl rfl)⟩
set_option maxRecDepth 100000 in
theorem ok_J7_copyOf_1904c : okS yJ7_copyOf_1904c cJ7_copyOf_1904c 2 (some (.array (.object "java/lang/Object"))) 2 := ⟨(⟨(lw_gi 72 rfl rfl), (lw_gi 337 rfl rfl), by decide +kernel, by decide +kernel, by decide +kernel⟩ : okC yJ7_copyOf_1904c cJ7_copyOf_1904c 2 (some (.array (.object "java/lang/Object"))) 2), (lw_gi 336 rfl rfl)⟩
set_option maxRecDepth 100000 in
theorem ok_J7_copyOf_6403c : okS yJ7_copyOf_6403c cJ7_copyOf_6403c 4 (some (.array (.object "java/lang/Object"))) 3 := ⟨(⟨(lw_gi 72 rfl rfl), (lw_gi 358 rfl rfl), by decide +kernel, by decide +kernel, by decide +kernel⟩ : okC yJ7_copyOf_6403c cJ7_copyOf_6403c 4 (some (.array (.object "java/lang/Object"))) 3), (lw_gi 357 rfl rfl)⟩
set_option maxRecDepth 100000 in
theorem ok_J15_checkIndex_7cf53 : okS yJ15_checkIndex_7cf53 cJ15_checkIndex_7cf53 2 (some .int) 2 := ⟨(⟨(lw_gi 78 rfl rfl), (lw_gi 464 rfl rfl), by decide +kernel, by decide +kernel, by decide +kernel⟩ : okC yJ15_checkIndex_7cf53 cJ15_checkIndex_7cf53 2 (some .int) 2), (lw_gi 463 rfl rfl)⟩
set_option maxRecDepth 100000 in
theorem ok_J8_newLength_cabcc : okS yJ8_newLength_cabcc cJ8_newLength_cabcc 4 (some .int) 3 := ⟨(⟨(lw_gi 70 rfl rfl), (lw_gi 327 rfl rfl), by decide +kernel, by decide +kernel, by decide +kernel⟩ : okC yJ8_newLength_cabcc cJ8_newLength_cabcc 4 (some .int) 3), (lw_gi 326 rfl rfl)⟩
set_option maxRecDepth 100000 in
theorem ok_J8_hugeLength_7cf53 : okS yJ8_hugeLength_7cf53 cJ8_hugeLength_7cf53 3 (some .int) 2 := ⟨(⟨(lw_gi 70 rfl rfl), (lw_gi 334 rfl rfl), by decide +kernel, by decide +kernel, by decide +kernel⟩ : okC yJ8_hugeLength_7cf53 cJ8_hugeLength_7cf53 3 (some .int) 2), (lw_gi 333 rfl rfl)⟩
set_option maxRecDepth 100000 in
theorem ok_J3_checkIndex_8e157 : okS yJ3_checkIndex_8e157 cJ3_checkIndex_8e157 3 (some .int) 3 := ⟨(⟨(lw_gi 79 rfl rfl), (lw_gi 467 rfl rfl), by decide +kernel, by decide +kernel, by decide +kernel⟩ : okC yJ3_checkIndex_8e157 cJ3_checkIndex_8e157 3 (some .int) 3), (lw_gi 466 rfl rfl)⟩
set_option maxRecDepth 100000 in
theorem lk_L_103 : Cond.methodLink RL 103 yX4_init ∈ lw_g := (lw_gi 87 rfl rfl)
set_option maxRecDepth 100000 in
theorem lk_X4_1 : Cond.methodLink RX4 1 objectInit ∈ lw_g := (lw_gi 90 rfl rfl)
set_option maxRecDepth 100000 in
theorem lk_X4_21 : Cond.methodLink RX4 21 yJx4a65c_init_da8c8 ∈ lw_g := (lw_gi 95 rfl rfl)
set_option maxRecDepth 100000 in
theorem lk_Jx4a65c_1 : Cond.methodLink RJx4a65c 1 yJxc12de_init_da8c8 ∈ lw_g := (lw_gi 98 rfl rfl)
set_option maxRecDepth 100000 in
theorem lk_Jxc12de_1 : Cond.methodLink RJxc12de 1 yJxa1e45_init_da8c8 ∈ lw_g := (lw_gi 101 rfl rfl)
set_option maxRecDepth 100000 in
theorem lk_Jxa1e45_1 : Cond.methodLink RJxa1e45 1 objectInit ∈ lw_g := (lw_gi 104 rfl rfl)
set_option maxRecDepth 100000 in
theorem lk_L_155 : Cond.methodLink RL 155 yX4_entries ∈ lw_g := (lw_gi 157 rfl rfl)
set_option maxRecDepth 100000 in
theorem lk_X4_58 : Cond.methodLink RX4 58 yJx4a65c_size_8abf5 ∈ lw_g := (lw_gi 161 rfl rfl)
set_option maxRecDepth 100000 in
theorem lk_L_180 : Cond.methodLink RL 180 yX4_time ∈ lw_g := (lw_gi 165 rfl rfl)
set_option maxRecDepth 100000 in
theorem lk_L_187 : Cond.methodLink RL 187 yX4_isAlarm ∈ lw_g := (lw_gi 169 rfl rfl)
set_option maxRecDepth 100000 in
theorem lk_L_196 : Cond.methodLink RL 196 yX4_opened ∈ lw_g := (lw_gi 173 rfl rfl)
set_option maxRecDepth 100000 in
theorem lk_L_200 : Cond.methodLink RL 200 yX4_refused ∈ lw_g := (lw_gi 177 rfl rfl)
set_option maxRecDepth 100000 in
theorem lk_L_107 : Cond.methodLink RL 107 yL_addLift ∈ lw_g := (lw_gi 181 rfl rfl)
set_option maxRecDepth 100000 in
theorem lk_L_7 : Cond.methodLink RL 7 yX4_addLift ∈ lw_g := (lw_gi 186 rfl rfl)
set_option maxRecDepth 100000 in
theorem lk_X2_3 : Cond.methodLink RX2 3 objectInit ∈ lw_g := (lw_gi 283 rfl rfl)
set_option maxRecDepth 100000 in
theorem lk_X4_72 : Cond.methodLink RX4 72 yJx4a65c_add_9ea2d ∈ lw_g := (lw_gi 309 rfl rfl)
set_option maxRecDepth 100000 in
theorem lk_Jx4a65c_131 : Cond.methodLink RJx4a65c 131 yJx4a65c_add_72be8 ∈ lw_g := (lw_gi 313 rfl rfl)
set_option maxRecDepth 100000 in
theorem lk_Jx4a65c_129 : Cond.methodLink RJx4a65c 129 yJx4a65c_grow_d5877 ∈ lw_g := (lw_gi 317 rfl rfl)
set_option maxRecDepth 100000 in
theorem lk_Jx4a65c_69 : Cond.methodLink RJx4a65c 69 yJx4a65c_grow_92f84 ∈ lw_g := (lw_gi 321 rfl rfl)
set_option maxRecDepth 100000 in
theorem lk_Jx4a65c_73 : Cond.methodLink RJx4a65c 73 yJ8_newLength_cabcc ∈ lw_g := (lw_gi 325 rfl rfl)
set_option maxRecDepth 100000 in
theorem lk_J8_194 : Cond.methodLink RJ8 194 yJ9_max_7cf53 ∈ lw_g := (lw_gi 328 rfl rfl)
set_option maxRecDepth 100000 in
theorem lk_J8_201 : Cond.methodLink RJ8 201 yJ8_hugeLength_7cf53 ∈ lw_g := (lw_gi 332 rfl rfl)
set_option maxRecDepth 100000 in
theorem lk_Jx4a65c_66 : Cond.methodLink RJx4a65c 66 yJ7_copyOf_1904c ∈ lw_g := (lw_gi 335 rfl rfl)
set_option maxRecDepth 100000 in
theorem lk_J7_300 : Cond.methodLink RJ7 300 yJ7_copyOf_6403c ∈ lw_g := (lw_gi 356 rfl rfl)
set_option maxRecDepth 100000 in
theorem lk_J7_304 : Cond.methodLink RJ7 304 yJ9_min_7cf53 ∈ lw_g := (lw_gi 362 rfl rfl)
set_option maxRecDepth 100000 in
theorem lk_Jx4a65c_79 : Cond.methodLink RJx4a65c 79 yJ9_max_7cf53 ∈ lw_g := (lw_gi 368 rfl rfl)
set_option maxRecDepth 100000 in
theorem lk_L_116 : Cond.methodLink RL 116 yL_setTenant ∈ lw_g := (lw_gi 370 rfl rfl)
set_option maxRecDepth 100000 in
theorem lk_L_17 : Cond.methodLink RL 17 yX4_setTenant ∈ lw_g := (lw_gi 397 rfl rfl)
set_option maxRecDepth 100000 in
theorem lk_L_120 : Cond.methodLink RL 120 yL_setHours ∈ lw_g := (lw_gi 415 rfl rfl)
set_option maxRecDepth 100000 in
theorem lk_L_23 : Cond.methodLink RL 23 yX4_setHours ∈ lw_g := (lw_gi 418 rfl rfl)
set_option maxRecDepth 100000 in
theorem lk_L_124 : Cond.methodLink RL 124 yL_addBadge ∈ lw_g := (lw_gi 423 rfl rfl)
set_option maxRecDepth 100000 in
theorem lk_L_27 : Cond.methodLink RL 27 yX4_addBadge ∈ lw_g := (lw_gi 426 rfl rfl)
set_option maxRecDepth 100000 in
theorem lk_X0_1 : Cond.methodLink RX0 1 objectInit ∈ lw_g := (lw_gi 436 rfl rfl)
set_option maxRecDepth 100000 in
theorem lk_L_127 : Cond.methodLink RL 127 yL_setRevoked ∈ lw_g := (lw_gi 446 rfl rfl)
set_option maxRecDepth 100000 in
theorem lk_L_30 : Cond.methodLink RL 30 yX4_setRevoked ∈ lw_g := (lw_gi 449 rfl rfl)
set_option maxRecDepth 100000 in
theorem lk_X4_95 : Cond.methodLink RX4 95 yX4_badgeNumbered ∈ lw_g := (lw_gi 453 rfl rfl)
set_option maxRecDepth 100000 in
theorem lk_X4_214 : Cond.methodLink RX4 214 yJx4a65c_get_915e3 ∈ lw_g := (lw_gi 458 rfl rfl)
set_option maxRecDepth 100000 in
theorem lk_Jx4a65c_118 : Cond.methodLink RJx4a65c 118 yJ15_checkIndex_7cf53 ∈ lw_g := (lw_gi 462 rfl rfl)
set_option maxRecDepth 100000 in
theorem lk_J15_105 : Cond.methodLink RJ15 105 yJ3_checkIndex_8e157 ∈ lw_g := (lw_gi 465 rfl rfl)
set_option maxRecDepth 100000 in
theorem lk_Jx4a65c_123 : Cond.methodLink RJx4a65c 123 yJx4a65c_elementData_915e3 ∈ lw_g := (lw_gi 468 rfl rfl)
set_option maxRecDepth 100000 in
theorem lk_L_131 : Cond.methodLink RL 131 yL_reason ∈ lw_g := (lw_gi 472 rfl rfl)
set_option maxRecDepth 100000 in
theorem lk_L_34 : Cond.methodLink RL 34 yX4_reason ∈ lw_g := (lw_gi 475 rfl rfl)
set_option maxRecDepth 100000 in
theorem lk_X4_103 : Cond.methodLink RX4 103 yX4_checkFloor ∈ lw_g := (lw_gi 479 rfl rfl)
set_option maxRecDepth 100000 in
theorem lk_X4_106 : Cond.methodLink RX4 106 yX4_whyNot ∈ lw_g := (lw_gi 482 rfl rfl)
set_option maxRecDepth 100000 in
theorem lk_L_134 : Cond.methodLink RL 134 yL_call ∈ lw_g := (lw_gi 486 rfl rfl)
set_option maxRecDepth 100000 in
theorem lk_L_38 : Cond.methodLink RL 38 yX4_call ∈ lw_g := (lw_gi 490 rfl rfl)
set_option maxRecDepth 100000 in
theorem lk_X4_117 : Cond.methodLink RX4 117 yX4_hasRider ∈ lw_g := (lw_gi 511 rfl rfl)
set_option maxRecDepth 100000 in
theorem lk_X3_3 : Cond.methodLink RX3 3 objectInit ∈ lw_g := (lw_gi 521 rfl rfl)
set_option maxRecDepth 100000 in
theorem lk_X4_128 : Cond.methodLink RX4 128 yX4_note ∈ lw_g := (lw_gi 551 rfl rfl)
set_option maxRecDepth 100000 in
theorem lk_X1_1 : Cond.methodLink RX1 1 objectInit ∈ lw_g := (lw_gi 560 rfl rfl)
set_option maxRecDepth 100000 in
theorem lk_X4_132 : Cond.methodLink RX4 132 yX4_giveLift ∈ lw_g := (lw_gi 574 rfl rfl)
set_option maxRecDepth 100000 in
theorem lk_X4_186 : Cond.methodLink RX4 186 yX4_scoreOf ∈ lw_g := (lw_gi 578 rfl rfl)
set_option maxRecDepth 100000 in
theorem lk_X4_250 : Cond.methodLink RX4 250 yJ9_abs_0f7a4 ∈ lw_g := (lw_gi 582 rfl rfl)
set_option maxRecDepth 100000 in
theorem lk_L_137 : Cond.methodLink RL 137 yL_state ∈ lw_g := (lw_gi 585 rfl rfl)
set_option maxRecDepth 100000 in
theorem lk_L_43 : Cond.methodLink RL 43 yX4_state ∈ lw_g := (lw_gi 588 rfl rfl)
set_option maxRecDepth 100000 in
theorem lk_X4_136 : Cond.methodLink RX4 136 yX4_riderNumbered ∈ lw_g := (lw_gi 592 rfl rfl)
set_option maxRecDepth 100000 in
theorem lk_L_140 : Cond.methodLink RL 140 yL_floorOf ∈ lw_g := (lw_gi 597 rfl rfl)
set_option maxRecDepth 100000 in
theorem lk_L_47 : Cond.methodLink RL 47 yX4_floorOf ∈ lw_g := (lw_gi 600 rfl rfl)
set_option maxRecDepth 100000 in
theorem lk_L_143 : Cond.methodLink RL 143 yL_aim ∈ lw_g := (lw_gi 604 rfl rfl)
set_option maxRecDepth 100000 in
theorem lk_L_50 : Cond.methodLink RL 50 yX4_aim ∈ lw_g := (lw_gi 607 rfl rfl)
set_option maxRecDepth 100000 in
theorem lk_L_146 : Cond.methodLink RL 146 yL_liftOf ∈ lw_g := (lw_gi 611 rfl rfl)
set_option maxRecDepth 100000 in
theorem lk_L_53 : Cond.methodLink RL 53 yX4_liftOf ∈ lw_g := (lw_gi 615 rfl rfl)
set_option maxRecDepth 100000 in
theorem lk_L_149 : Cond.methodLink RL 149 yL_waited ∈ lw_g := (lw_gi 635 rfl rfl)
set_option maxRecDepth 100000 in
theorem lk_L_58 : Cond.methodLink RL 58 yX4_waited ∈ lw_g := (lw_gi 638 rfl rfl)
set_option maxRecDepth 100000 in
theorem lk_L_152 : Cond.methodLink RL 152 yL_waitedByLog ∈ lw_g := (lw_gi 642 rfl rfl)
set_option maxRecDepth 100000 in
theorem lk_L_61 : Cond.methodLink RL 61 yX4_waitedByLog ∈ lw_g := (lw_gi 645 rfl rfl)
set_option maxRecDepth 100000 in
theorem lk_X4_163 : Cond.methodLink RX4 163 yX4_ticksByLog ∈ lw_g := (lw_gi 649 rfl rfl)
set_option maxRecDepth 100000 in
theorem lk_L_159 : Cond.methodLink RL 159 yL_callOff ∈ lw_g := (lw_gi 653 rfl rfl)
set_option maxRecDepth 100000 in
theorem lk_L_64 : Cond.methodLink RL 64 yX4_callOff ∈ lw_g := (lw_gi 656 rfl rfl)
set_option maxRecDepth 100000 in
theorem lk_X4_167 : Cond.methodLink RX4 167 yX4_liftNumbered ∈ lw_g := (lw_gi 660 rfl rfl)
set_option maxRecDepth 100000 in
theorem lk_X4_176 : Cond.methodLink RX4 176 yX4_loseLift ∈ lw_g := (lw_gi 666 rfl rfl)
set_option maxRecDepth 100000 in
theorem lk_L_162 : Cond.methodLink RL 162 yL_service ∈ lw_g := (lw_gi 674 rfl rfl)
set_option maxRecDepth 100000 in
theorem lk_L_67 : Cond.methodLink RL 67 yX4_service ∈ lw_g := (lw_gi 677 rfl rfl)
set_option maxRecDepth 100000 in
theorem lk_L_165 : Cond.methodLink RL 165 yL_floorOfLift ∈ lw_g := (lw_gi 681 rfl rfl)
set_option maxRecDepth 100000 in
theorem lk_L_70 : Cond.methodLink RL 70 yX4_floorOfLift ∈ lw_g := (lw_gi 684 rfl rfl)
set_option maxRecDepth 100000 in
theorem lk_L_168 : Cond.methodLink RL 168 yL_isUp ∈ lw_g := (lw_gi 688 rfl rfl)
set_option maxRecDepth 100000 in
theorem lk_L_73 : Cond.methodLink RL 73 yX4_isUp ∈ lw_g := (lw_gi 691 rfl rfl)
set_option maxRecDepth 100000 in
theorem lk_L_171 : Cond.methodLink RL 171 yL_aboard ∈ lw_g := (lw_gi 695 rfl rfl)
set_option maxRecDepth 100000 in
theorem lk_L_77 : Cond.methodLink RL 77 yX4_aboard ∈ lw_g := (lw_gi 698 rfl rfl)
set_option maxRecDepth 100000 in
theorem lk_X4_183 : Cond.methodLink RX4 183 yX4_countAboard ∈ lw_g := (lw_gi 702 rfl rfl)
set_option maxRecDepth 100000 in
theorem lk_L_174 : Cond.methodLink RL 174 yL_score ∈ lw_g := (lw_gi 710 rfl rfl)
set_option maxRecDepth 100000 in
theorem lk_L_80 : Cond.methodLink RL 80 yX4_score ∈ lw_g := (lw_gi 713 rfl rfl)
set_option maxRecDepth 100000 in
theorem lk_L_177 : Cond.methodLink RL 177 yL_pass ∈ lw_g := (lw_gi 717 rfl rfl)
set_option maxRecDepth 100000 in
theorem lk_L_83 : Cond.methodLink RL 83 yX4_pass ∈ lw_g := (lw_gi 720 rfl rfl)
set_option maxRecDepth 100000 in
theorem lk_X4_192 : Cond.methodLink RX4 192 yX4_passOneTick ∈ lw_g := (lw_gi 725 rfl rfl)
set_option maxRecDepth 100000 in
theorem lk_X4_259 : Cond.methodLink RX4 259 yX4_giveLiftsInTurn ∈ lw_g := (lw_gi 729 rfl rfl)
set_option maxRecDepth 100000 in
theorem lk_X4_204 : Cond.methodLink RX4 204 yX4_floorInTurn ∈ lw_g := (lw_gi 733 rfl rfl)
set_option maxRecDepth 100000 in
theorem lk_X4_304 : Cond.methodLink RX4 304 yX4_isWaitedOn ∈ lw_g := (lw_gi 737 rfl rfl)
set_option maxRecDepth 100000 in
theorem lk_X4_262 : Cond.methodLink RX4 262 yX4_giveLiftsToAll ∈ lw_g := (lw_gi 741 rfl rfl)
set_option maxRecDepth 100000 in
theorem lk_X4_265 : Cond.methodLink RX4 265 yX4_runLift ∈ lw_g := (lw_gi 745 rfl rfl)
set_option maxRecDepth 100000 in
theorem lk_X4_275 : Cond.methodLink RX4 275 yX4_letOut ∈ lw_g := (lw_gi 753 rfl rfl)
set_option maxRecDepth 100000 in
theorem lk_X4_284 : Cond.methodLink RX4 284 yJx4a65c_remove_915e3 ∈ lw_g := (lw_gi 757 rfl rfl)
set_option maxRecDepth 100000 in
theorem lk_Jx4a65c_144 : Cond.methodLink RJx4a65c 144 yJx4a65c_fastRemove_b59b0 ∈ lw_g := (lw_gi 761 rfl rfl)
set_option maxRecDepth 100000 in
theorem lk_X4_287 : Cond.methodLink RX4 287 yX4_finish ∈ lw_g := (lw_gi 766 rfl rfl)
set_option maxRecDepth 100000 in
theorem lk_X4_278 : Cond.methodLink RX4 278 yX4_letIn ∈ lw_g := (lw_gi 770 rfl rfl)
set_option maxRecDepth 100000 in
theorem lk_X4_291 : Cond.methodLink RX4 291 yX4_hasRoom ∈ lw_g := (lw_gi 774 rfl rfl)
set_option maxRecDepth 100000 in
theorem lk_X4_294 : Cond.methodLink RX4 294 yX4_goAboard ∈ lw_g := (lw_gi 778 rfl rfl)
set_option maxRecDepth 100000 in
theorem lk_X4_281 : Cond.methodLink RX4 281 yX4_move ∈ lw_g := (lw_gi 782 rfl rfl)
set_option maxRecDepth 100000 in
theorem lk_X4_297 : Cond.methodLink RX4 297 yX4_hasAimTowards ∈ lw_g := (lw_gi 786 rfl rfl)
set_option maxRecDepth 100000 in
theorem lk_X4_269 : Cond.methodLink RX4 269 yX4_countWaiting ∈ lw_g := (lw_gi 790 rfl rfl)
set_option maxRecDepth 100000 in
theorem lk_X4_195 : Cond.methodLink RX4 195 yJx4a65c_isEmpty_aae02 ∈ lw_g := (lw_gi 794 rfl rfl)
set_option maxRecDepth 100000 in
theorem lk_L_184 : Cond.methodLink RL 184 yL_alarm ∈ lw_g := (lw_gi 798 rfl rfl)
set_option maxRecDepth 100000 in
theorem lk_L_86 : Cond.methodLink RL 86 yX4_alarm ∈ lw_g := (lw_gi 801 rfl rfl)
set_option maxRecDepth 100000 in
theorem lk_X4_201 : Cond.methodLink RX4 201 yX4_sendAllToLobby ∈ lw_g := (lw_gi 806 rfl rfl)
set_option maxRecDepth 100000 in
theorem lk_L_192 : Cond.methodLink RL 192 yL_turn ∈ lw_g := (lw_gi 810 rfl rfl)
set_option maxRecDepth 100000 in
theorem lk_L_89 : Cond.methodLink RL 89 yX4_turn ∈ lw_g := (lw_gi 813 rfl rfl)
set_option maxRecDepth 100000 in
theorem lk_L_204 : Cond.methodLink RL 204 yL_doneShare ∈ lw_g := (lw_gi 818 rfl rfl)
set_option maxRecDepth 100000 in
theorem lk_L_93 : Cond.methodLink RL 93 yX4_doneShare ∈ lw_g := (lw_gi 835 rfl rfl)
set_option maxRecDepth 100000 in
theorem lk_L_208 : Cond.methodLink RL 208 yL_meanWait ∈ lw_g := (lw_gi 842 rfl rfl)
set_option maxRecDepth 100000 in
theorem lk_L_99 : Cond.methodLink RL 99 yX4_meanWait ∈ lw_g := (lw_gi 845 rfl rfl)
set_option maxRecDepth 100000 in
theorem lk_L_113 : Cond.methodLink RL 113 yX5_thrown ∈ lw_g := (lw_gi 849 rfl rfl)
set_option maxRecDepth 100000 in
theorem lk_L_106 : Cond.methodLink RL 106 yX5_init ∈ lw_g := (lw_gi 855 rfl rfl)
set_option maxRecDepth 100000 in
theorem lk_X5_11 : Cond.methodLink RX5 11 objectInit ∈ lw_g := (lw_gi 858 rfl rfl)
set_option maxRecDepth 100000 in
theorem lk_L_112 : Cond.methodLink RL 112 yX5_addLift ∈ lw_g := (lw_gi 946 rfl rfl)
set_option maxRecDepth 100000 in
theorem lk_X5_7 : Cond.methodLink RX5 7 yX5_isBetween ∈ lw_g := (lw_gi 950 rfl rfl)
set_option maxRecDepth 100000 in
theorem lk_X5_80 : Cond.methodLink RX5 80 yX5_fails ∈ lw_g := (lw_gi 953 rfl rfl)
set_option maxRecDepth 100000 in
theorem lk_L_119 : Cond.methodLink RL 119 yX5_setTenant ∈ lw_g := (lw_gi 957 rfl rfl)
set_option maxRecDepth 100000 in
theorem lk_L_123 : Cond.methodLink RL 123 yX5_setHours ∈ lw_g := (lw_gi 961 rfl rfl)
set_option maxRecDepth 100000 in
theorem lk_L_126 : Cond.methodLink RL 126 yX5_addBadge ∈ lw_g := (lw_gi 965 rfl rfl)
set_option maxRecDepth 100000 in
theorem lk_L_130 : Cond.methodLink RL 130 yX5_setRevoked ∈ lw_g := (lw_gi 969 rfl rfl)
set_option maxRecDepth 100000 in
theorem lk_X5_84 : Cond.methodLink RX5 84 yX5_isBadge ∈ lw_g := (lw_gi 973 rfl rfl)
set_option maxRecDepth 100000 in
theorem lk_X5_88 : Cond.methodLink RX5 88 yX5_isWrong ∈ lw_g := (lw_gi 977 rfl rfl)
set_option maxRecDepth 100000 in
theorem lk_L_133 : Cond.methodLink RL 133 yX5_reason ∈ lw_g := (lw_gi 981 rfl rfl)
set_option maxRecDepth 100000 in
theorem lk_X5_94 : Cond.methodLink RX5 94 yX5_isFloor ∈ lw_g := (lw_gi 985 rfl rfl)
set_option maxRecDepth 100000 in
theorem lk_X5_97 : Cond.methodLink RX5 97 yX5_why ∈ lw_g := (lw_gi 988 rfl rfl)
set_option maxRecDepth 100000 in
theorem lk_L_136 : Cond.methodLink RL 136 yX5_call ∈ lw_g := (lw_gi 992 rfl rfl)
set_option maxRecDepth 100000 in
theorem lk_X5_116 : Cond.methodLink RX5 116 yX5_isOut ∈ lw_g := (lw_gi 996 rfl rfl)
set_option maxRecDepth 100000 in
theorem lk_X5_123 : Cond.methodLink RX5 123 yX5_gives ∈ lw_g := (lw_gi 1000 rfl rfl)
set_option maxRecDepth 100000 in
theorem lk_X5_106 : Cond.methodLink RX5 106 yX5_scoreOf ∈ lw_g := (lw_gi 1004 rfl rfl)
set_option maxRecDepth 100000 in
theorem lk_X5_101 : Cond.methodLink RX5 101 yJ9_abs_0f7a4 ∈ lw_g := (lw_gi 1008 rfl rfl)
set_option maxRecDepth 100000 in
theorem lk_L_139 : Cond.methodLink RL 139 yX5_state ∈ lw_g := (lw_gi 1009 rfl rfl)
set_option maxRecDepth 100000 in
theorem lk_X5_130 : Cond.methodLink RX5 130 yX5_isNobody ∈ lw_g := (lw_gi 1013 rfl rfl)
set_option maxRecDepth 100000 in
theorem lk_X5_127 : Cond.methodLink RX5 127 yX5_isRider ∈ lw_g := (lw_gi 1017 rfl rfl)
set_option maxRecDepth 100000 in
theorem lk_L_142 : Cond.methodLink RL 142 yX5_floorOf ∈ lw_g := (lw_gi 1021 rfl rfl)
set_option maxRecDepth 100000 in
theorem lk_L_145 : Cond.methodLink RL 145 yX5_aim ∈ lw_g := (lw_gi 1025 rfl rfl)
set_option maxRecDepth 100000 in
theorem lk_L_148 : Cond.methodLink RL 148 yX5_liftOf ∈ lw_g := (lw_gi 1029 rfl rfl)
set_option maxRecDepth 100000 in
theorem lk_L_151 : Cond.methodLink RL 151 yX5_waited ∈ lw_g := (lw_gi 1033 rfl rfl)
set_option maxRecDepth 100000 in
theorem lk_X5_133 : Cond.methodLink RX5 133 yX5_waitedBy ∈ lw_g := (lw_gi 1037 rfl rfl)
set_option maxRecDepth 100000 in
theorem lk_L_154 : Cond.methodLink RL 154 yX5_waitedByLog ∈ lw_g := (lw_gi 1041 rfl rfl)
set_option maxRecDepth 100000 in
theorem lk_X5_136 : Cond.methodLink RX5 136 yX5_waited ∈ lw_g := (lw_gi 1045 rfl rfl)
set_option maxRecDepth 100000 in
theorem lk_L_158 : Cond.methodLink RL 158 yX5_entries ∈ lw_g := (lw_gi 1046 rfl rfl)
set_option maxRecDepth 100000 in
theorem lk_L_161 : Cond.methodLink RL 161 yX5_callOff ∈ lw_g := (lw_gi 1050 rfl rfl)
set_option maxRecDepth 100000 in
theorem lk_X5_139 : Cond.methodLink RX5 139 yX5_isLift ∈ lw_g := (lw_gi 1054 rfl rfl)
set_option maxRecDepth 100000 in
theorem lk_X5_142 : Cond.methodLink RX5 142 yX5_frees ∈ lw_g := (lw_gi 1058 rfl rfl)
set_option maxRecDepth 100000 in
theorem lk_L_164 : Cond.methodLink RL 164 yX5_service ∈ lw_g := (lw_gi 1062 rfl rfl)
set_option maxRecDepth 100000 in
theorem lk_X5_145 : Cond.methodLink RX5 145 yX5_isNoLift ∈ lw_g := (lw_gi 1066 rfl rfl)
set_option maxRecDepth 100000 in
theorem lk_L_167 : Cond.methodLink RL 167 yX5_floorOfLift ∈ lw_g := (lw_gi 1070 rfl rfl)
set_option maxRecDepth 100000 in
theorem lk_L_170 : Cond.methodLink RL 170 yX5_isUp ∈ lw_g := (lw_gi 1074 rfl rfl)
set_option maxRecDepth 100000 in
theorem lk_L_173 : Cond.methodLink RL 173 yX5_aboard ∈ lw_g := (lw_gi 1078 rfl rfl)
set_option maxRecDepth 100000 in
theorem lk_X5_148 : Cond.methodLink RX5 148 yX5_aboardMany ∈ lw_g := (lw_gi 1082 rfl rfl)
set_option maxRecDepth 100000 in
theorem lk_L_176 : Cond.methodLink RL 176 yX5_score ∈ lw_g := (lw_gi 1086 rfl rfl)
set_option maxRecDepth 100000 in
theorem lk_L_179 : Cond.methodLink RL 179 yX5_pass ∈ lw_g := (lw_gi 1090 rfl rfl)
set_option maxRecDepth 100000 in
theorem lk_X5_188 : Cond.methodLink RX5 188 yX5_passesOne ∈ lw_g := (lw_gi 1094 rfl rfl)
set_option maxRecDepth 100000 in
theorem lk_X5_178 : Cond.methodLink RX5 178 yX5_turnNow ∈ lw_g := (lw_gi 1098 rfl rfl)
set_option maxRecDepth 100000 in
theorem lk_X5_175 : Cond.methodLink RX5 175 yX5_isWaiting ∈ lw_g := (lw_gi 1102 rfl rfl)
set_option maxRecDepth 100000 in
theorem lk_X5_182 : Cond.methodLink RX5 182 yX5_works ∈ lw_g := (lw_gi 1106 rfl rfl)
set_option maxRecDepth 100000 in
theorem lk_X5_164 : Cond.methodLink RX5 164 yX5_opens ∈ lw_g := (lw_gi 1110 rfl rfl)
set_option maxRecDepth 100000 in
theorem lk_X5_151 : Cond.methodLink RX5 151 yX5_ends ∈ lw_g := (lw_gi 1114 rfl rfl)
set_option maxRecDepth 100000 in
theorem lk_X5_169 : Cond.methodLink RX5 169 yX5_goes ∈ lw_g := (lw_gi 1118 rfl rfl)
set_option maxRecDepth 100000 in
theorem lk_X5_161 : Cond.methodLink RX5 161 yX5_hasAim ∈ lw_g := (lw_gi 1122 rfl rfl)
set_option maxRecDepth 100000 in
theorem lk_X5_158 : Cond.methodLink RX5 158 yX5_isAim ∈ lw_g := (lw_gi 1126 rfl rfl)
set_option maxRecDepth 100000 in
theorem lk_X5_185 : Cond.methodLink RX5 185 yX5_outMany ∈ lw_g := (lw_gi 1130 rfl rfl)
set_option maxRecDepth 100000 in
theorem lk_L_183 : Cond.methodLink RL 183 yX5_time ∈ lw_g := (lw_gi 1134 rfl rfl)
set_option maxRecDepth 100000 in
theorem lk_L_186 : Cond.methodLink RL 186 yX5_alarm ∈ lw_g := (lw_gi 1138 rfl rfl)
set_option maxRecDepth 100000 in
theorem lk_L_191 : Cond.methodLink RL 191 yX5_isAlarm ∈ lw_g := (lw_gi 1142 rfl rfl)
set_option maxRecDepth 100000 in
theorem lk_L_195 : Cond.methodLink RL 195 yX5_turn ∈ lw_g := (lw_gi 1146 rfl rfl)
set_option maxRecDepth 100000 in
theorem lk_L_199 : Cond.methodLink RL 199 yX5_opened ∈ lw_g := (lw_gi 1150 rfl rfl)
set_option maxRecDepth 100000 in
theorem lk_L_203 : Cond.methodLink RL 203 yX5_refused ∈ lw_g := (lw_gi 1154 rfl rfl)
set_option maxRecDepth 100000 in
theorem lk_L_207 : Cond.methodLink RL 207 yX5_doneShare ∈ lw_g := (lw_gi 1158 rfl rfl)
set_option maxRecDepth 100000 in
theorem lk_L_210 : Cond.methodLink RL 210 yX5_meanWait ∈ lw_g := (lw_gi 1162 rfl rfl)
set_option maxRecDepth 100000 in
theorem fk_Jx4a65c_39 : Cond.fieldLink RJx4a65c 39 RJx4a65c "DEFAULTCAPACITY_EMPTY_ELEMENTDATA" "[Ljava/lang/Object;" ∈ lw_g := (lw_gi 105 rfl rfl)
set_option maxRecDepth 100000 in
theorem fk_Jx4a65c_9 : Cond.fieldLink RJx4a65c 9 RJx4a65c "elementData" "[Ljava/lang/Object;" ∈ lw_g := (lw_gi 107 rfl rfl)
set_option maxRecDepth 100000 in
theorem fk_Jx4a65c_48 : Cond.fieldLink RJx4a65c 48 RJx4a65c "size" "I" ∈ lw_g := (lw_gi 108 rfl rfl)
set_option maxRecDepth 100000 in
theorem fk_Jxc12de_7 : Cond.fieldLink RJxc12de 7 RJxc12de "modCount" "I" ∈ lw_g := (lw_gi 109 rfl rfl)
set_option maxRecDepth 100000 in
theorem fk_Jx4a65c_63 : Cond.fieldLink RJx4a65c 63 RJx4a65c "modCount" "I" ∈ lw_g := (lw_gi 110 rfl rfl)
set_option maxRecDepth 100000 in
theorem fk_X4_9 : Cond.fieldLink RX4 9 RX4 "tenants" "[I" ∈ lw_g := (lw_gi 120 rfl rfl)
set_option maxRecDepth 100000 in
theorem fk_X4_13 : Cond.fieldLink RX4 13 RX4 "firstTimes" "[I" ∈ lw_g := (lw_gi 121 rfl rfl)
set_option maxRecDepth 100000 in
theorem fk_X4_16 : Cond.fieldLink RX4 16 RX4 "endTimes" "[I" ∈ lw_g := (lw_gi 122 rfl rfl)
set_option maxRecDepth 100000 in
theorem fk_X4_22 : Cond.fieldLink RX4 22 RX4 "badges" "Ljava/util/ArrayList;" ∈ lw_g := (lw_gi 123 rfl rfl)
set_option maxRecDepth 100000 in
theorem fk_X4_26 : Cond.fieldLink RX4 26 RX4 "lifts" "Ljava/util/ArrayList;" ∈ lw_g := (lw_gi 124 rfl rfl)
set_option maxRecDepth 100000 in
theorem fk_X4_29 : Cond.fieldLink RX4 29 RX4 "riders" "Ljava/util/ArrayList;" ∈ lw_g := (lw_gi 125 rfl rfl)
set_option maxRecDepth 100000 in
theorem fk_X4_32 : Cond.fieldLink RX4 32 RX4 "present" "Ljava/util/ArrayList;" ∈ lw_g := (lw_gi 126 rfl rfl)
set_option maxRecDepth 100000 in
theorem fk_X4_35 : Cond.fieldLink RX4 35 RX4 "log" "Ljava/util/ArrayList;" ∈ lw_g := (lw_gi 127 rfl rfl)
set_option maxRecDepth 100000 in
theorem fk_X4_38 : Cond.fieldLink RX4 38 RX4 "now" "I" ∈ lw_g := (lw_gi 128 rfl rfl)
set_option maxRecDepth 100000 in
theorem fk_X4_42 : Cond.fieldLink RX4 42 RX4 "alarmFloor" "I" ∈ lw_g := (lw_gi 129 rfl rfl)
set_option maxRecDepth 100000 in
theorem fk_X4_45 : Cond.fieldLink RX4 45 RX4 "openings" "I" ∈ lw_g := (lw_gi 130 rfl rfl)
set_option maxRecDepth 100000 in
theorem fk_X4_48 : Cond.fieldLink RX4 48 RX4 "refusals" "I" ∈ lw_g := (lw_gi 131 rfl rfl)
set_option maxRecDepth 100000 in
theorem fk_X2_26 : Cond.fieldLink RX2 26 RX2 "number" "I" ∈ lw_g := (lw_gi 284 rfl rfl)
set_option maxRecDepth 100000 in
theorem fk_X2_29 : Cond.fieldLink RX2 29 RX2 "capacity" "I" ∈ lw_g := (lw_gi 286 rfl rfl)
set_option maxRecDepth 100000 in
theorem fk_X2_9 : Cond.fieldLink RX2 9 RX2 "floor" "I" ∈ lw_g := (lw_gi 288 rfl rfl)
set_option maxRecDepth 100000 in
theorem fk_X2_15 : Cond.fieldLink RX2 15 RX2 "isUp" "Z" ∈ lw_g := (lw_gi 290 rfl rfl)
set_option maxRecDepth 100000 in
theorem fk_X2_19 : Cond.fieldLink RX2 19 RX2 "service" "C" ∈ lw_g := (lw_gi 292 rfl rfl)
set_option maxRecDepth 100000 in
theorem fk_X2_23 : Cond.fieldLink RX2 23 RX2 "cleaningLeft" "I" ∈ lw_g := (lw_gi 294 rfl rfl)
set_option maxRecDepth 100000 in
theorem fk_X0_13 : Cond.fieldLink RX0 13 RX0 "tenant" "I" ∈ lw_g := (lw_gi 437 rfl rfl)
set_option maxRecDepth 100000 in
theorem fk_X0_7 : Cond.fieldLink RX0 7 RX0 "isRevoked" "Z" ∈ lw_g := (lw_gi 439 rfl rfl)
set_option maxRecDepth 100000 in
theorem fk_X3_23 : Cond.fieldLink RX3 23 RX3 "number" "I" ∈ lw_g := (lw_gi 522 rfl rfl)
set_option maxRecDepth 100000 in
theorem fk_X3_26 : Cond.fieldLink RX3 26 RX3 "badge" "LLiftDesk$Badge;" ∈ lw_g := (lw_gi 524 rfl rfl)
set_option maxRecDepth 100000 in
theorem fk_X3_30 : Cond.fieldLink RX3 30 RX3 "floor" "I" ∈ lw_g := (lw_gi 526 rfl rfl)
set_option maxRecDepth 100000 in
theorem fk_X3_33 : Cond.fieldLink RX3 33 RX3 "aim" "I" ∈ lw_g := (lw_gi 528 rfl rfl)
set_option maxRecDepth 100000 in
theorem fk_X3_9 : Cond.fieldLink RX3 9 RX3 "state" "C" ∈ lw_g := (lw_gi 530 rfl rfl)
set_option maxRecDepth 100000 in
theorem fk_X3_15 : Cond.fieldLink RX3 15 RX3 "lift" "LLiftDesk$Lift;" ∈ lw_g := (lw_gi 532 rfl rfl)
set_option maxRecDepth 100000 in
theorem fk_X3_19 : Cond.fieldLink RX3 19 RX3 "waited" "I" ∈ lw_g := (lw_gi 534 rfl rfl)
set_option maxRecDepth 100000 in
theorem fk_X1_7 : Cond.fieldLink RX1 7 RX1 "rider" "I" ∈ lw_g := (lw_gi 561 rfl rfl)
set_option maxRecDepth 100000 in
theorem fk_X1_13 : Cond.fieldLink RX1 13 RX1 "state" "C" ∈ lw_g := (lw_gi 563 rfl rfl)
set_option maxRecDepth 100000 in
theorem fk_X1_17 : Cond.fieldLink RX1 17 RX1 "time" "I" ∈ lw_g := (lw_gi 565 rfl rfl)
set_option maxRecDepth 100000 in
theorem fk_X5_1 : Cond.fieldLink RX5 1 RX5 "thrown" "I" ∈ lw_g := (lw_gi 859 rfl rfl)
set_option maxRecDepth 100000 in
theorem fk_X5_17 : Cond.fieldLink RX5 17 RX5 "tenants" "[I" ∈ lw_g := (lw_gi 860 rfl rfl)
set_option maxRecDepth 100000 in
theorem fk_X5_21 : Cond.fieldLink RX5 21 RX5 "opens" "[I" ∈ lw_g := (lw_gi 861 rfl rfl)
set_option maxRecDepth 100000 in
theorem fk_X5_24 : Cond.fieldLink RX5 24 RX5 "closes" "[I" ∈ lw_g := (lw_gi 862 rfl rfl)
set_option maxRecDepth 100000 in
theorem fk_X5_27 : Cond.fieldLink RX5 27 RX5 "badgeTenants" "[I" ∈ lw_g := (lw_gi 863 rfl rfl)
set_option maxRecDepth 100000 in
theorem fk_X5_30 : Cond.fieldLink RX5 30 RX5 "isRevoked" "[Z" ∈ lw_g := (lw_gi 864 rfl rfl)
set_option maxRecDepth 100000 in
theorem fk_X5_71 : Cond.fieldLink RX5 71 RX5 "badges" "I" ∈ lw_g := (lw_gi 865 rfl rfl)
set_option maxRecDepth 100000 in
theorem fk_X5_34 : Cond.fieldLink RX5 34 RX5 "badgeOf" "[I" ∈ lw_g := (lw_gi 866 rfl rfl)
set_option maxRecDepth 100000 in
theorem fk_X5_37 : Cond.fieldLink RX5 37 RX5 "at" "[I" ∈ lw_g := (lw_gi 867 rfl rfl)
set_option maxRecDepth 100000 in
theorem fk_X5_40 : Cond.fieldLink RX5 40 RX5 "aims" "[I" ∈ lw_g := (lw_gi 868 rfl rfl)
set_option maxRecDepth 100000 in
theorem fk_X5_43 : Cond.fieldLink RX5 43 RX5 "lifts" "[I" ∈ lw_g := (lw_gi 869 rfl rfl)
set_option maxRecDepth 100000 in
theorem fk_X5_46 : Cond.fieldLink RX5 46 RX5 "calledAt" "[I" ∈ lw_g := (lw_gi 870 rfl rfl)
set_option maxRecDepth 100000 in
theorem fk_X5_49 : Cond.fieldLink RX5 49 RX5 "wentAt" "[I" ∈ lw_g := (lw_gi 871 rfl rfl)
set_option maxRecDepth 100000 in
theorem fk_X5_52 : Cond.fieldLink RX5 52 RX5 "states" "[C" ∈ lw_g := (lw_gi 872 rfl rfl)
set_option maxRecDepth 100000 in
theorem fk_X5_74 : Cond.fieldLink RX5 74 RX5 "riders" "I" ∈ lw_g := (lw_gi 873 rfl rfl)
set_option maxRecDepth 100000 in
theorem fk_X5_110 : Cond.fieldLink RX5 110 RX5 "entries" "I" ∈ lw_g := (lw_gi 874 rfl rfl)
set_option maxRecDepth 100000 in
theorem fk_X5_113 : Cond.fieldLink RX5 113 RX5 "done" "I" ∈ lw_g := (lw_gi 875 rfl rfl)
set_option maxRecDepth 100000 in
theorem fk_X5_56 : Cond.fieldLink RX5 56 RX5 "rooms" "[I" ∈ lw_g := (lw_gi 876 rfl rfl)
set_option maxRecDepth 100000 in
theorem fk_X5_59 : Cond.fieldLink RX5 59 RX5 "where" "[I" ∈ lw_g := (lw_gi 877 rfl rfl)
set_option maxRecDepth 100000 in
theorem fk_X5_62 : Cond.fieldLink RX5 62 RX5 "left" "[I" ∈ lw_g := (lw_gi 878 rfl rfl)
set_option maxRecDepth 100000 in
theorem fk_X5_65 : Cond.fieldLink RX5 65 RX5 "services" "[C" ∈ lw_g := (lw_gi 879 rfl rfl)
set_option maxRecDepth 100000 in
theorem fk_X5_68 : Cond.fieldLink RX5 68 RX5 "isUp" "[Z" ∈ lw_g := (lw_gi 880 rfl rfl)
set_option maxRecDepth 100000 in
theorem fk_X5_77 : Cond.fieldLink RX5 77 RX5 "liftMany" "I" ∈ lw_g := (lw_gi 881 rfl rfl)
set_option maxRecDepth 100000 in
theorem fk_X5_91 : Cond.fieldLink RX5 91 RX5 "time" "I" ∈ lw_g := (lw_gi 882 rfl rfl)
set_option maxRecDepth 100000 in
theorem fk_X5_166 : Cond.fieldLink RX5 166 RX5 "opened" "I" ∈ lw_g := (lw_gi 883 rfl rfl)
set_option maxRecDepth 100000 in
theorem fk_X5_155 : Cond.fieldLink RX5 155 RX5 "refused" "I" ∈ lw_g := (lw_gi 884 rfl rfl)
set_option maxRecDepth 100000 in
theorem fk_X5_172 : Cond.fieldLink RX5 172 RX5 "alarmFloor" "I" ∈ lw_g := (lw_gi 885 rfl rfl)
set_option maxRecDepth 100000 in
theorem fk_X5_119 : Cond.fieldLink RX5 119 RX5 "isAlarm" "Z" ∈ lw_g := (lw_gi 886 rfl rfl)
set_option maxRecDepth 100000 in
theorem fn_X4_76 : Cond.fieldLinkNest RX4 76 RX2 "number" "I" RX4 ∈ lw_n := lw_ni 285 rfl rfl
set_option maxRecDepth 100000 in
theorem fn_X4_235 : Cond.fieldLinkNest RX4 235 RX2 "capacity" "I" RX4 ∈ lw_n := lw_ni 287 rfl rfl
set_option maxRecDepth 100000 in
theorem fn_X4_148 : Cond.fieldLinkNest RX4 148 RX2 "floor" "I" RX4 ∈ lw_n := lw_ni 289 rfl rfl
set_option maxRecDepth 100000 in
theorem fn_X4_180 : Cond.fieldLinkNest RX4 180 RX2 "isUp" "Z" RX4 ∈ lw_n := lw_ni 291 rfl rfl
set_option maxRecDepth 100000 in
theorem fn_X4_171 : Cond.fieldLinkNest RX4 171 RX2 "service" "C" RX4 ∈ lw_n := lw_ni 293 rfl rfl
set_option maxRecDepth 100000 in
theorem fn_X4_301 : Cond.fieldLinkNest RX4 301 RX2 "cleaningLeft" "I" RX4 ∈ lw_n := lw_ni 295 rfl rfl
set_option maxRecDepth 100000 in
theorem fn_X4_224 : Cond.fieldLinkNest RX4 224 RX0 "tenant" "I" RX4 ∈ lw_n := lw_ni 438 rfl rfl
set_option maxRecDepth 100000 in
theorem fn_X4_99 : Cond.fieldLinkNest RX4 99 RX0 "isRevoked" "Z" RX4 ∈ lw_n := lw_ni 440 rfl rfl
set_option maxRecDepth 100000 in
theorem fn_X4_135 : Cond.fieldLinkNest RX4 135 RX3 "number" "I" RX4 ∈ lw_n := lw_ni 523 rfl rfl
set_option maxRecDepth 100000 in
theorem fn_X4_227 : Cond.fieldLinkNest RX4 227 RX3 "badge" "LLiftDesk$Badge;" RX4 ∈ lw_n := lw_ni 525 rfl rfl
set_option maxRecDepth 100000 in
theorem fn_X4_151 : Cond.fieldLinkNest RX4 151 RX3 "floor" "I" RX4 ∈ lw_n := lw_ni 527 rfl rfl
set_option maxRecDepth 100000 in
theorem fn_X4_152 : Cond.fieldLinkNest RX4 152 RX3 "aim" "I" RX4 ∈ lw_n := lw_ni 529 rfl rfl
set_option maxRecDepth 100000 in
theorem fn_X4_140 : Cond.fieldLinkNest RX4 140 RX3 "state" "C" RX4 ∈ lw_n := lw_ni 531 rfl rfl
set_option maxRecDepth 100000 in
theorem fn_X4_144 : Cond.fieldLinkNest RX4 144 RX3 "lift" "LLiftDesk$Lift;" RX4 ∈ lw_n := lw_ni 533 rfl rfl
set_option maxRecDepth 100000 in
theorem fn_X4_160 : Cond.fieldLinkNest RX4 160 RX3 "waited" "I" RX4 ∈ lw_n := lw_ni 535 rfl rfl
set_option maxRecDepth 100000 in
theorem fn_X4_243 : Cond.fieldLinkNest RX4 243 RX1 "rider" "I" RX4 ∈ lw_n := lw_ni 562 rfl rfl
set_option maxRecDepth 100000 in
theorem fn_X4_246 : Cond.fieldLinkNest RX4 246 RX1 "state" "C" RX4 ∈ lw_n := lw_ni 564 rfl rfl
set_option maxRecDepth 100000 in
theorem fn_X4_247 : Cond.fieldLinkNest RX4 247 RX1 "time" "I" RX4 ∈ lw_n := lw_ni 566 rfl rfl
set_option maxRecDepth 100000 in
theorem mn_X4_69 : Cond.methodLinkNest RX4 69 yX2_init RX4 ∈ lw_n := lw_ni 280 rfl rfl
set_option maxRecDepth 100000 in
theorem mn_X4_92 : Cond.methodLinkNest RX4 92 yX0_init RX4 ∈ lw_n := lw_ni 433 rfl rfl
set_option maxRecDepth 100000 in
theorem mn_X4_125 : Cond.methodLinkNest RX4 125 yX3_init RX4 ∈ lw_n := lw_ni 518 rfl rfl
set_option maxRecDepth 100000 in
theorem mn_X4_240 : Cond.methodLinkNest RX4 240 yX1_init RX4 ∈ lw_n := lw_ni 557 rfl rfl
set_option maxRecDepth 100000 in
theorem mn_X4_256 : Cond.methodLinkNest RX4 256 yX3_waitsFor RX4 ∈ lw_n := lw_ni 670 rfl rfl
set_option maxRecDepth 100000 in
theorem mn_X4_231 : Cond.methodLinkNest RX4 231 yX3_isIn RX4 ∈ lw_n := lw_ni 706 rfl rfl
set_option maxRecDepth 100000 in
theorem mn_X4_272 : Cond.methodLinkNest RX4 272 yX2_cleanForOneTick RX4 ∈ lw_n := lw_ni 749 rfl rfl
set_option maxRecDepth 100000 in
theorem kl_L_8 : Cond.classLink RL 8 RX4 ∈ lw_g := (lw_gi 85 rfl rfl)
set_option maxRecDepth 100000 in
theorem kl_X4_19 : Cond.classLink RX4 19 RJx4a65c ∈ lw_g := (lw_gi 93 rfl rfl)
set_option maxRecDepth 100000 in
theorem kl_L_13 : Cond.classLink RL 13 "java/lang/IllegalArgumentException" ∈ lw_g := (lw_gi 184 rfl rfl)
set_option maxRecDepth 100000 in
theorem kl_L_15 : Cond.classLink RL 15 "java/lang/IllegalStateException" ∈ lw_g := (lw_gi 185 rfl rfl)
set_option maxRecDepth 100000 in
theorem kl_X4_51 : Cond.classLink RX4 51 "java/lang/IllegalArgumentException" ∈ lw_g := (lw_gi 190 rfl rfl)
set_option maxRecDepth 100000 in
theorem kl_X4_62 : Cond.classLink RX4 62 "java/lang/IllegalStateException" ∈ lw_g := (lw_gi 262 rfl rfl)
set_option maxRecDepth 100000 in
theorem kl_X4_67 : Cond.classLink RX4 67 RX2 ∈ lw_g := (lw_gi 278 rfl rfl)
set_option maxRecDepth 100000 in
theorem kl_J7_110 : Cond.classLink RJ7 110 "[Ljava/lang/Object;" ∈ lw_g := (lw_gi 359 rfl rfl)
set_option maxRecDepth 100000 in
theorem kl_J7_2 : Cond.classLink RJ7 2 "java/lang/Object" ∈ lw_g := (lw_gi 361 rfl rfl)
set_option maxRecDepth 100000 in
theorem kl_Jx4a65c_7 : Cond.classLink RJx4a65c 7 "java/lang/Object" ∈ lw_g := (lw_gi 369 rfl rfl)
set_option maxRecDepth 100000 in
theorem kl_L_21 : Cond.classLink RL 21 "java/lang/IndexOutOfBoundsException" ∈ lw_g := (lw_gi 373 rfl rfl)
set_option maxRecDepth 100000 in
theorem kl_X4_79 : Cond.classLink RX4 79 "java/lang/IndexOutOfBoundsException" ∈ lw_g := (lw_gi 401 rfl rfl)
set_option maxRecDepth 100000 in
theorem kl_X4_90 : Cond.classLink RX4 90 RX0 ∈ lw_g := (lw_gi 431 rfl rfl)
set_option maxRecDepth 100000 in
theorem kl_L_41 : Cond.classLink RL 41 "java/lang/UnsupportedOperationException" ∈ lw_g := (lw_gi 489 rfl rfl)
set_option maxRecDepth 100000 in
theorem kl_X4_112 : Cond.classLink RX4 112 "java/lang/UnsupportedOperationException" ∈ lw_g := (lw_gi 495 rfl rfl)
set_option maxRecDepth 100000 in
theorem kl_X4_123 : Cond.classLink RX4 123 RX3 ∈ lw_g := (lw_gi 515 rfl rfl)
set_option maxRecDepth 100000 in
theorem kl_X4_238 : Cond.classLink RX4 238 RX1 ∈ lw_g := (lw_gi 555 rfl rfl)
set_option maxRecDepth 100000 in
theorem kl_L_56 : Cond.classLink RL 56 "java/util/NoSuchElementException" ∈ lw_g := (lw_gi 614 rfl rfl)
set_option maxRecDepth 100000 in
theorem kl_X4_155 : Cond.classLink RX4 155 "java/util/NoSuchElementException" ∈ lw_g := (lw_gi 619 rfl rfl)
set_option maxRecDepth 100000 in
theorem kl_L_97 : Cond.classLink RL 97 "java/lang/ArithmeticException" ∈ lw_g := (lw_gi 821 rfl rfl)
set_option maxRecDepth 100000 in
theorem kl_X4_209 : Cond.classLink RX4 209 "java/lang/ArithmeticException" ∈ lw_g := (lw_gi 839 rfl rfl)
set_option maxRecDepth 100000 in
theorem kl_L_104 : Cond.classLink RL 104 RX5 ∈ lw_g := (lw_gi 853 rfl rfl)
set_option maxRecDepth 100000 in
theorem is_X4 : Cond.instantiable RX4 12 ∈ lw_g := (lw_gi 86 rfl rfl)
set_option maxRecDepth 100000 in
theorem is_Jx4a65c : Cond.instantiable RJx4a65c 3 ∈ lw_g := (lw_gi 94 rfl rfl)
set_option maxRecDepth 100000 in
theorem is_X2 : Cond.instantiable RX2 6 ∈ lw_g := (lw_gi 279 rfl rfl)
set_option maxRecDepth 100000 in
theorem is_Jx00060 : Cond.instantiable RJx00060 6 ∈ lw_g := (lw_gi 374 rfl rfl)
set_option maxRecDepth 100000 in
theorem is_J0 : Cond.instantiable RJ0 4 ∈ lw_g := (lw_gi 392 rfl rfl)
set_option maxRecDepth 100000 in
theorem is_X0 : Cond.instantiable RX0 2 ∈ lw_g := (lw_gi 432 rfl rfl)
set_option maxRecDepth 100000 in
theorem is_X3 : Cond.instantiable RX3 7 ∈ lw_g := (lw_gi 517 rfl rfl)
set_option maxRecDepth 100000 in
theorem is_X1 : Cond.instantiable RX1 3 ∈ lw_g := (lw_gi 556 rfl rfl)
set_option maxRecDepth 100000 in
theorem is_X5 : Cond.instantiable RX5 28 ∈ lw_g := (lw_gi 854 rfl rfl)
set_option maxRecDepth 100000 in
theorem in_L : Cond.initialized RL ∈ lw_g := (lw_gi 58 rfl rfl)
set_option maxRecDepth 100000 in
theorem in_X4 : Cond.initialized RX4 ∈ lw_g := (lw_gi 59 rfl rfl)
set_option maxRecDepth 100000 in
theorem in_Jxa1e45 : Cond.initialized RJxa1e45 ∈ lw_g := (lw_gi 60 rfl rfl)
set_option maxRecDepth 100000 in
theorem in_Jxc12de : Cond.initialized RJxc12de ∈ lw_g := (lw_gi 61 rfl rfl)
set_option maxRecDepth 100000 in
theorem in_Jx4a65c : Cond.initialized RJx4a65c ∈ lw_g := (lw_gi 62 rfl rfl)
set_option maxRecDepth 100000 in
theorem in_X5 : Cond.initialized RX5 ∈ lw_g := (lw_gi 63 rfl rfl)
set_option maxRecDepth 100000 in
theorem in_java_lang_Throwable : Cond.initialized "java/lang/Throwable" ∈ lw_g := (lw_gi 64 rfl rfl)
set_option maxRecDepth 100000 in
theorem in_java_lang_Exception : Cond.initialized "java/lang/Exception" ∈ lw_g := (lw_gi 65 rfl rfl)
set_option maxRecDepth 100000 in
theorem in_java_lang_RuntimeException : Cond.initialized "java/lang/RuntimeException" ∈ lw_g := (lw_gi 66 rfl rfl)
set_option maxRecDepth 100000 in
theorem in_java_lang_IllegalArgumentException : Cond.initialized "java/lang/IllegalArgumentException" ∈ lw_g := (lw_gi 67 rfl rfl)
set_option maxRecDepth 100000 in
theorem in_java_lang_IllegalStateException : Cond.initialized "java/lang/IllegalStateException" ∈ lw_g := (lw_gi 68 rfl rfl)
set_option maxRecDepth 100000 in
theorem in_X2 : Cond.initialized RX2 ∈ lw_g := (lw_gi 69 rfl rfl)
set_option maxRecDepth 100000 in
theorem in_J8 : Cond.initialized RJ8 ∈ lw_g := (lw_gi 70 rfl rfl)
set_option maxRecDepth 100000 in
theorem in_J9 : Cond.initialized RJ9 ∈ lw_g := (lw_gi 71 rfl rfl)
set_option maxRecDepth 100000 in
theorem in_J7 : Cond.initialized RJ7 ∈ lw_g := (lw_gi 72 rfl rfl)
set_option maxRecDepth 100000 in
theorem in_J10 : Cond.initialized RJ10 ∈ lw_g := (lw_gi 73 rfl rfl)
set_option maxRecDepth 100000 in
theorem in_java_lang_IndexOutOfBoundsException : Cond.initialized "java/lang/IndexOutOfBoundsException" ∈ lw_g := (lw_gi 74 rfl rfl)
set_option maxRecDepth 100000 in
theorem in_Jx00060 : Cond.initialized RJx00060 ∈ lw_g := (lw_gi 75 rfl rfl)
set_option maxRecDepth 100000 in
theorem in_J0 : Cond.initialized RJ0 ∈ lw_g := (lw_gi 76 rfl rfl)
set_option maxRecDepth 100000 in
theorem in_X0 : Cond.initialized RX0 ∈ lw_g := (lw_gi 77 rfl rfl)
set_option maxRecDepth 100000 in
theorem in_J15 : Cond.initialized RJ15 ∈ lw_g := (lw_gi 78 rfl rfl)
set_option maxRecDepth 100000 in
theorem in_J3 : Cond.initialized RJ3 ∈ lw_g := (lw_gi 79 rfl rfl)
set_option maxRecDepth 100000 in
theorem in_java_lang_UnsupportedOperationException : Cond.initialized "java/lang/UnsupportedOperationException" ∈ lw_g := (lw_gi 80 rfl rfl)
set_option maxRecDepth 100000 in
theorem in_X3 : Cond.initialized RX3 ∈ lw_g := (lw_gi 81 rfl rfl)
set_option maxRecDepth 100000 in
theorem in_X1 : Cond.initialized RX1 ∈ lw_g := (lw_gi 82 rfl rfl)
set_option maxRecDepth 100000 in
theorem in_java_util_NoSuchElementException : Cond.initialized "java/util/NoSuchElementException" ∈ lw_g := (lw_gi 83 rfl rfl)
set_option maxRecDepth 100000 in
theorem in_java_lang_ArithmeticException : Cond.initialized "java/lang/ArithmeticException" ∈ lw_g := (lw_gi 84 rfl rfl)
set_option maxRecDepth 100000 in
theorem ly_X5 : ∀ w ∈ u_ws RX5 TX5 28, w ∈ lw_g := by
  intro w hw
  obtain ⟨k, hk, rfl⟩ := List.mem_map.mp hw
  have hk := List.mem_range.mp hk
  match k, hk with
  | 0, _ => exact (lw_gi 887 rfl rfl)
  | 1, _ => exact (lw_gi 889 rfl rfl)
  | 2, _ => exact (lw_gi 891 rfl rfl)
  | 3, _ => exact (lw_gi 893 rfl rfl)
  | 4, _ => exact (lw_gi 895 rfl rfl)
  | 5, _ => exact (lw_gi 897 rfl rfl)
  | 6, _ => exact (lw_gi 899 rfl rfl)
  | 7, _ => exact (lw_gi 901 rfl rfl)
  | 8, _ => exact (lw_gi 903 rfl rfl)
  | 9, _ => exact (lw_gi 905 rfl rfl)
  | 10, _ => exact (lw_gi 907 rfl rfl)
  | 11, _ => exact (lw_gi 909 rfl rfl)
  | 12, _ => exact (lw_gi 911 rfl rfl)
  | 13, _ => exact (lw_gi 913 rfl rfl)
  | 14, _ => exact (lw_gi 915 rfl rfl)
  | 15, _ => exact (lw_gi 917 rfl rfl)
  | 16, _ => exact (lw_gi 919 rfl rfl)
  | 17, _ => exact (lw_gi 921 rfl rfl)
  | 18, _ => exact (lw_gi 923 rfl rfl)
  | 19, _ => exact (lw_gi 925 rfl rfl)
  | 20, _ => exact (lw_gi 927 rfl rfl)
  | 21, _ => exact (lw_gi 929 rfl rfl)
  | 22, _ => exact (lw_gi 931 rfl rfl)
  | 23, _ => exact (lw_gi 933 rfl rfl)
  | 24, _ => exact (lw_gi 935 rfl rfl)
  | 25, _ => exact (lw_gi 937 rfl rfl)
  | 26, _ => exact (lw_gi 939 rfl rfl)
  | 27, _ => exact (lw_gi 941 rfl rfl)
  | j + 28, h => exact absurd h (by omega)
set_option maxRecDepth 100000 in
theorem ly_X4 : ∀ w ∈ u_ws RX4 TX4 12, w ∈ lw_g := by
  intro w hw
  obtain ⟨k, hk, rfl⟩ := List.mem_map.mp hw
  have hk := List.mem_range.mp hk
  match k, hk with
  | 0, _ => exact (lw_gi 132 rfl rfl)
  | 1, _ => exact (lw_gi 134 rfl rfl)
  | 2, _ => exact (lw_gi 136 rfl rfl)
  | 3, _ => exact (lw_gi 138 rfl rfl)
  | 4, _ => exact (lw_gi 140 rfl rfl)
  | 5, _ => exact (lw_gi 142 rfl rfl)
  | 6, _ => exact (lw_gi 144 rfl rfl)
  | 7, _ => exact (lw_gi 146 rfl rfl)
  | 8, _ => exact (lw_gi 148 rfl rfl)
  | 9, _ => exact (lw_gi 150 rfl rfl)
  | 10, _ => exact (lw_gi 152 rfl rfl)
  | 11, _ => exact (lw_gi 154 rfl rfl)
  | j + 12, h => exact absurd h (by omega)
set_option maxRecDepth 100000 in
theorem ly_X0 : ∀ w ∈ u_ws RX0 TX0 2, w ∈ lw_g := by
  intro w hw
  obtain ⟨k, hk, rfl⟩ := List.mem_map.mp hw
  have hk := List.mem_range.mp hk
  match k, hk with
  | 0, _ => exact (lw_gi 441 rfl rfl)
  | 1, _ => exact (lw_gi 443 rfl rfl)
  | j + 2, h => exact absurd h (by omega)
set_option maxRecDepth 100000 in
theorem ly_X2 : ∀ w ∈ u_ws RX2 TX2 6, w ∈ lw_g := by
  intro w hw
  obtain ⟨k, hk, rfl⟩ := List.mem_map.mp hw
  have hk := List.mem_range.mp hk
  match k, hk with
  | 0, _ => exact (lw_gi 296 rfl rfl)
  | 1, _ => exact (lw_gi 298 rfl rfl)
  | 2, _ => exact (lw_gi 300 rfl rfl)
  | 3, _ => exact (lw_gi 302 rfl rfl)
  | 4, _ => exact (lw_gi 304 rfl rfl)
  | 5, _ => exact (lw_gi 306 rfl rfl)
  | j + 6, h => exact absurd h (by omega)
set_option maxRecDepth 100000 in
theorem ly_X3 : ∀ w ∈ u_ws RX3 TX3 7, w ∈ lw_g := by
  intro w hw
  obtain ⟨k, hk, rfl⟩ := List.mem_map.mp hw
  have hk := List.mem_range.mp hk
  match k, hk with
  | 0, _ => exact (lw_gi 536 rfl rfl)
  | 1, _ => exact (lw_gi 538 rfl rfl)
  | 2, _ => exact (lw_gi 540 rfl rfl)
  | 3, _ => exact (lw_gi 542 rfl rfl)
  | 4, _ => exact (lw_gi 544 rfl rfl)
  | 5, _ => exact (lw_gi 546 rfl rfl)
  | 6, _ => exact (lw_gi 548 rfl rfl)
  | j + 7, h => exact absurd h (by omega)
set_option maxRecDepth 100000 in
theorem ly_X1 : ∀ w ∈ u_ws RX1 TX1 3, w ∈ lw_g := by
  intro w hw
  obtain ⟨k, hk, rfl⟩ := List.mem_map.mp hw
  have hk := List.mem_range.mp hk
  match k, hk with
  | 0, _ => exact (lw_gi 567 rfl rfl)
  | 1, _ => exact (lw_gi 569 rfl rfl)
  | 2, _ => exact (lw_gi 571 rfl rfl)
  | j + 3, h => exact absurd h (by omega)
set_option maxRecDepth 100000 in
theorem ly_Jx4a65c : ∀ w ∈ u_ws RJx4a65c TJx4a65c 3, w ∈ lw_g := by
  intro w hw
  obtain ⟨k, hk, rfl⟩ := List.mem_map.mp hw
  have hk := List.mem_range.mp hk
  match k, hk with
  | 0, _ => exact (lw_gi 116 rfl rfl)
  | 1, _ => exact (lw_gi 112 rfl rfl)
  | 2, _ => exact (lw_gi 114 rfl rfl)
  | j + 3, h => exact absurd h (by omega)
set_option maxRecDepth 100000 in
theorem st_abs : Cond.static Lib.Math.abs.name ∈ lw_g := lw_gi 583 rfl rfl
set_option maxRecDepth 100000 in
theorem cd_abs : Cond.code Lib.Math.abs.name Lib.Math.abs.code 1 (some .int) ∈ lw_g := lw_gi 584 rfl rfl
set_option maxRecDepth 100000 in
theorem st_max : Cond.static Lib.Math.max.name ∈ lw_g := lw_gi 329 rfl rfl
set_option maxRecDepth 100000 in
theorem cd_max : Cond.code Lib.Math.max.name Lib.Math.max.code 2 (some .int) ∈ lw_g := lw_gi 330 rfl rfl
set_option maxRecDepth 100000 in
theorem st_min : Cond.static Lib.Math.min.name ∈ lw_g := lw_gi 363 rfl rfl
set_option maxRecDepth 100000 in
theorem cd_min : Cond.code Lib.Math.min.name Lib.Math.min.code 2 (some .int) ∈ lw_g := lw_gi 364 rfl rfl
set_option maxRecDepth 100000 in
theorem ca_X2 : Cond.castable RX2 "java/lang/Object" ∈ lw_n := lw_ni 1175 rfl rfl
set_option maxRecDepth 100000 in
theorem ca_X0 : Cond.castable RX0 "java/lang/Object" ∈ lw_n := lw_ni 1178 rfl rfl
set_option maxRecDepth 100000 in
theorem ca_X3 : Cond.castable RX3 "java/lang/Object" ∈ lw_n := lw_ni 1180 rfl rfl
set_option maxRecDepth 100000 in
theorem ca_X1 : Cond.castable RX1 "java/lang/Object" ∈ lw_n := lw_ni 1181 rfl rfl
end
section
/-! the tables: a state is a table of numbers; row k is the field k (its place 0), or the array of the field k -/
abbrev TT : Type := Nat → Nat → Int32
def tu (M : TT) (k i : Nat) (v : Int32) : TT := fun k9 i9 => if k9 = k ∧ i9 = i then v else M k9 i9
theorem tu_s {M : TT} {k i : Nat} {v : Int32} : tu M k i v k i = v := by simp [tu]
theorem tu_k {M : TT} {k i k9 i9 : Nat} {v : Int32} (h : k9 ≠ k) : tu M k i v k9 i9 = M k9 i9 := by simp [tu, h]
theorem tu_i {M : TT} {k i k9 i9 : Nat} {v : Int32} (h : i9 ≠ i) : tu M k i v k9 i9 = M k9 i9 := by simp [tu, h]
theorem tu_r {M : TT} {k i k9 : Nat} {v : Int32} (h : k9 ≠ k) : tu M k i v k9 = M k9 := by funext j; simp [tu, h]
theorem tu_u {M : TT} {k i : Nat} {v : Int32} : tu M k i v k = upd (M k) i v := by funext j; simp [tu, upd]
def b2i (c : Prop) [Decidable c] : Int32 := if c then 1 else 0
theorem b2i_0 {c : Prop} [Decidable c] : b2i c = 0 ↔ ¬ c := by unfold b2i; by_cases h : c <;> simp [h]
theorem b2i_t {c : Prop} [Decidable c] (h : c) : b2i c = 1 := if_pos h
theorem b2i_f {c : Prop} [Decidable c] (h : ¬ c) : b2i c = 0 := if_neg h
theorem b2i_n {c : Prop} [Decidable c] : narrow .boolean (.int (b2i c)) = .int (b2i c) := by unfold b2i; by_cases h : c <;> simp [h] <;> rfl
def mA : Nat → Bool := fun k => match k with
  | 0 => false
  | 1 => true
  | 2 => true
  | 3 => true
  | 4 => true
  | 5 => true
  | 6 => false
  | 7 => true
  | 8 => true
  | 9 => true
  | 10 => true
  | 11 => true
  | 12 => true
  | 13 => true
  | 14 => false
  | 15 => false
  | 16 => false
  | 17 => true
  | 18 => true
  | 19 => true
  | 20 => true
  | 21 => true
  | 22 => false
  | 23 => false
  | 24 => false
  | 25 => false
  | 26 => false
  | 27 => false
  | _ => false
def mL : Nat → Nat := fun k => match k with
  | 0 => 0
  | 1 => 10
  | 2 => 10
  | 3 => 10
  | 4 => 8
  | 5 => 8
  | 6 => 0
  | 7 => 30
  | 8 => 30
  | 9 => 30
  | 10 => 30
  | 11 => 30
  | 12 => 30
  | 13 => 30
  | 14 => 0
  | 15 => 0
  | 16 => 0
  | 17 => 3
  | 18 => 3
  | 19 => 3
  | 20 => 3
  | 21 => 3
  | 22 => 0
  | 23 => 0
  | 24 => 0
  | 25 => 0
  | 26 => 0
  | 27 => 0
  | _ => 0
def mY : Nat → Nat := fun k => match k with
  | 0 => 0
  | 1 => 0
  | 2 => 0
  | 3 => 0
  | 4 => 0
  | 5 => 2
  | 6 => 0
  | 7 => 0
  | 8 => 0
  | 9 => 0
  | 10 => 0
  | 11 => 0
  | 12 => 0
  | 13 => 1
  | 14 => 0
  | 15 => 0
  | 16 => 0
  | 17 => 0
  | 18 => 0
  | 19 => 0
  | 20 => 1
  | 21 => 2
  | 22 => 0
  | 23 => 0
  | 24 => 0
  | 25 => 0
  | 26 => 0
  | 27 => 0
  | _ => 0
def mX : Nat → Nat := fun k => match k with
  | 0 => 1
  | 1 => 17
  | 2 => 21
  | 3 => 24
  | 4 => 27
  | 5 => 30
  | 6 => 71
  | 7 => 34
  | 8 => 37
  | 9 => 40
  | 10 => 43
  | 11 => 46
  | 12 => 49
  | 13 => 52
  | 14 => 74
  | 15 => 110
  | 16 => 113
  | 17 => 56
  | 18 => 59
  | 19 => 62
  | 20 => 65
  | 21 => 68
  | 22 => 77
  | 23 => 91
  | 24 => 166
  | 25 => 155
  | 26 => 172
  | 27 => 119
  | _ => 0
theorem mT1 : ∀ k, k < 28 → (TX5 k).1 = RX5 := by decide +kernel
theorem mLk : ∀ k, k < 28 → Cond.fieldLink RX5 (mX k) RX5 (TX5 k).2.1 (TX5 k).2.2.1 ∈ lw_g := by
  intro k hk
  match k, hk with
  | 0, _ => exact fk_X5_1
  | 1, _ => exact fk_X5_17
  | 2, _ => exact fk_X5_21
  | 3, _ => exact fk_X5_24
  | 4, _ => exact fk_X5_27
  | 5, _ => exact fk_X5_30
  | 6, _ => exact fk_X5_71
  | 7, _ => exact fk_X5_34
  | 8, _ => exact fk_X5_37
  | 9, _ => exact fk_X5_40
  | 10, _ => exact fk_X5_43
  | 11, _ => exact fk_X5_46
  | 12, _ => exact fk_X5_49
  | 13, _ => exact fk_X5_52
  | 14, _ => exact fk_X5_74
  | 15, _ => exact fk_X5_110
  | 16, _ => exact fk_X5_113
  | 17, _ => exact fk_X5_56
  | 18, _ => exact fk_X5_59
  | 19, _ => exact fk_X5_62
  | 20, _ => exact fk_X5_65
  | 21, _ => exact fk_X5_68
  | 22, _ => exact fk_X5_77
  | 23, _ => exact fk_X5_91
  | 24, _ => exact fk_X5_166
  | 25, _ => exact fk_X5_155
  | 26, _ => exact fk_X5_172
  | 27, _ => exact fk_X5_119
  | j + 28, h => exact absurd h (by omega)
/-- the fields of the model's object: numbers, and its arrays at 'ad' -/
def mfl (ad : Nat → Nat) (M : TT) : List Value := (List.range 28).map (fun k => if mA k = true then Value.ref (ad k) else .int (M k 0))
theorem mfl_get {ad : Nat → Nat} {M : TT} {k : Nat} (hk : k < 28) : (mfl ad M)[k]? = some (if mA k = true then Value.ref (ad k) else .int (M k 0)) := by
  unfold mfl
  rw [List.getElem?_map, List.getElem?_range hk]
  rfl
theorem mfl_len {ad : Nat → Nat} {M : TT} : (mfl ad M).length = 28 := by simp [mfl]
theorem mfl_put {ad : Nat → Nat} {M : TT} {k : Nat} {v : Int32} (hk : k < 28) (ha : mA k = false) : (mfl ad M).set k (.int v) = mfl ad (tu M k 0 v) := by
  apply List.ext_getElem?
  intro j
  by_cases hj : j < 28
  · rw [mfl_get hj]
    by_cases h : j = k
    · subst h
      rw [List.getElem?_set_self (by rw [mfl_len]; exact hk), ha]
      simp [tu]
    · rw [List.getElem?_set_ne (Ne.symm h), mfl_get hj, tu_k h]
  · rw [List.getElem?_eq_none (by rw [List.length_set, mfl_len]; omega), List.getElem?_eq_none (by rw [mfl_len]; omega)]
theorem mfl_arr {ad : Nat → Nat} {M : TT} {k i : Nat} {v : Int32} (ha : mA k = true) : mfl ad (tu M k i v) = mfl ad M := by
  unfold mfl
  apply List.map_congr_left
  intro j _
  by_cases h : j = k
  · subst h; rw [ha]; rfl
  · rw [tu_k h]
/-- the model's cells: its object at o, its arrays at 'ad', holding the table M; none of them is foreign -/
def PM (g : cG) (F : Nat → Prop) (o : Nat) (ad : Nat → Nat) (M : TT) (H : Heap) : Prop :=
  (¬ F o ∧ ∀ k, mA k = true → ¬ F (ad k) ∧ ad k ≠ o ∧ ∀ j, mA j = true → ad j = ad k → j = k) ∧ va_at g.1 vwCl (o, .inr (8, mfl ad M)) H ∧ ∀ k, mA k = true → va_at g.1 vwCl (ad k, .inl (g.2.1 (mY k), mL k, .inl (M k))) H
theorem PM.recv {g : cG} {F : Nat → Prop} {o : Nat} {ad : Nat → Nat} {M : TT} {H : Heap} {s : State} (hG : GE g F s) (h : PM g F o ad M H) : ∃ cellB : Cell, H[o]? = some cellB ∧ cellB.vm.isStatics = false ∧ s.vm.findClass RX5 = some cellB.cls :=
  va_recv (q := (RX5, TX5, 28)) (q0 := 0) (ci := 8) hG.1 (va_P1 h.2.1) rfl rfl
section MR
variable {p : Program} {l : Launch} {e : Env} {R : Room} {s : State} {m : MethodId} {args : Array Value} {below : List Frame} {meth : Method} {c : Code} {H : Heap} {locs : List Loc} {cells slots : Nat} {Q : State → Prop}
variable {cc : ByteArray} {pc nL : Nat} {ls : Array Slot} {rest : List Value} {g : cG} {F : Nat → Prop} {H0 : Heap} {o : Nat} {ad : Nat → Nat} {M : TT}
theorem mg (E : EN p s m c cc nL args RX5 g F) (hP : PM g F o ad M H) (k : Nat) {x : Nat} {v : Int32} (hd : decode cc pc = .ok (.getfield x, 3)) (hv : M k 0 = v) (hx : mX k = x := by rfl) (hk : Nat.ble (k + 1) 28 = true := by rfl) (ha : mA k = false := by rfl)
    (kk : W p l e R s m args below meth c H locs cells slots Q (F0 m (pc + 3) ls (.int v :: rest))) : W p l e R s m args below meth c H locs cells slots Q (F0 m pc ls (.ref o :: rest)) := by
  have hk := Nat.le_of_ble_eq_true hk
  subst hx hv
  exact w_get E (C := RX5) (T := TX5) (N := 28) (ci := 8) ly_X5 hP.2.1 rfl k hk (mT1 k hk) (mLk k hk) (by rw [mfl_get hk, ha]; rfl) hd kk
theorem mga (E : EN p s m c cc nL args RX5 g F) (hP : PM g F o ad M H) (k : Nat) {x : Nat} (hd : decode cc pc = .ok (.getfield x, 3)) (hx : mX k = x := by rfl) (hk : Nat.ble (k + 1) 28 = true := by rfl) (ha : mA k = true := by rfl)
    (kk : W p l e R s m args below meth c H locs cells slots Q (F0 m (pc + 3) ls (.ref (ad k) :: rest))) : W p l e R s m args below meth c H locs cells slots Q (F0 m pc ls (.ref o :: rest)) := by
  have hk := Nat.le_of_ble_eq_true hk
  subst hx
  exact w_get E (C := RX5) (T := TX5) (N := 28) (ci := 8) ly_X5 hP.2.1 rfl k hk (mT1 k hk) (mLk k hk) (by rw [mfl_get hk, ha]; rfl) hd kk
theorem mp (E : EN p s m c cc nL args RX5 g F) (hS : va_S (nF F) H0 H locs) (hP : PM g F o ad M H) (k : Nat) {x : Nat} {v : Int32} (hd : decode cc pc = .ok (.putfield x, 3)) (hn : narrow (tyX5 k) (.int v) = .int v) (hx : mX k = x := by rfl) (hk : Nat.ble (k + 1) 28 = true := by rfl) (ha : mA k = false := by rfl) (hfin : (TX5 k).2.2.2 = false := by rfl) (hfit : fits (tyX5 k) (.int v) = true := by rfl)
    (kk : ∀ (H1 : Heap) (locs1 : List Loc), va_S (nF F) H0 H1 locs1 → PM g F o ad (tu M k 0 v) H1 → W p l e R s m args below meth c H1 locs1 cells slots Q (F0 m (pc + 3) ls rest)) : W p l e R s m args below meth c H locs cells slots Q (F0 m pc ls (.int v :: .ref o :: rest)) := by
  have hk := Nat.le_of_ble_eq_true hk
  subst hx
  refine w_put E (C := RX5) (T := TX5) (N := 28) (ci := 8) ly_X5 tyX5 tyX5_ok nmX5 hS hP.2.1 hP.1.1 rfl k hk (mT1 k hk) (mLk k hk) hfin hn hfit (by rw [mfl_len]; exact hk) hd fun H1 locs1 e1 z oq hS1 => ?_
  refine kk H1 locs1 hS1 ⟨hP.1, ?_, fun j hj => ?_⟩
  · rw [← mfl_put hk ha]; exact e1
  · have hjk : j ≠ k := fun h => by rw [h, ha] at hj; cases hj
    rw [tu_r hjk]
    exact (hP.2.2 j hj).kept (oq _ (hP.1.2 j hj).2.1)
theorem PM.ast (hP : PM g F o ad M H) {k i : Nat} {v : Int32} (ha : mA k = true) {H1 : Heap} (e1 : va_at g.1 vwCl (ad k, .inl (g.2.1 (mY k), mL k, .inl (upd (M k) i v))) H1) (oq : ∀ q, q ≠ ad k → H1[q]? = H[q]?) : PM g F o ad (tu M k i v) H1 := by
  refine ⟨hP.1, ?_, fun j hj => ?_⟩
  · rw [mfl_arr ha]
    exact hP.2.1.kept (oq _ (fun h => (hP.1.2 k ha).2.1 h.symm))
  · by_cases h : j = k
    · subst h; rw [tu_u]; exact e1
    · rw [tu_r h]
      exact (hP.2.2 j hj).kept (oq _ (fun h2 => h ((hP.1.2 k ha).2.2 j hj h2)))
theorem vp_in9 {i : Int32} {j n : Nat} (hi : i = nI j) (hj : j < n) (hn : Nat.ble n 100 = true) : vp_in i n ∧ i.toNatClampNeg = j := by
  have hn := Nat.le_of_ble_eq_true hn
  subst hi
  exact ⟨vp_in_nI hj (by omega), nI_clamp (by omega)⟩
theorem mli (E : EN p s m c cc nL args RX5 g F) (hP : PM g F o ad M H) (k j : Nat) {i v : Int32} (hd : decode cc pc = .ok (.iaload, 1)) (hi : i = nI j) (hj : j < mL k) (hv : M k j = v) (ha : mA k = true := by rfl) (hy : mY k = 0 := by rfl) (hl : Nat.ble (mL k) 100 = true := by rfl)
    (kk : W p l e R s m args below meth c H locs cells slots Q (F0 m (pc + 1) ls (.int v :: rest))) : W p l e R s m args below meth c H locs cells slots Q (F0 m pc ls (.int i :: .ref (ad k) :: rest)) := by
  obtain ⟨h1, h2⟩ := vp_in9 hi hj hl
  have h3 := hP.2.2 k ha
  rw [hy] at h3
  exact w_iald E h3 h1 hd (by rw [h2, hv]; exact kk)
theorem mlc (E : EN p s m c cc nL args RX5 g F) (hP : PM g F o ad M H) (k j : Nat) {i v : Int32} (hd : decode cc pc = .ok (.caload, 1)) (hi : i = nI j) (hj : j < mL k) (hv : M k j = v) (ha : mA k = true := by rfl) (hy : mY k = 1 := by rfl) (hl : Nat.ble (mL k) 100 = true := by rfl)
    (kk : W p l e R s m args below meth c H locs cells slots Q (F0 m (pc + 1) ls (.int v :: rest))) : W p l e R s m args below meth c H locs cells slots Q (F0 m pc ls (.int i :: .ref (ad k) :: rest)) := by
  obtain ⟨h1, h2⟩ := vp_in9 hi hj hl
  have h3 := hP.2.2 k ha
  rw [hy] at h3
  exact w_cald E h3 h1 hd (by rw [h2, hv]; exact kk)
theorem mlz (E : EN p s m c cc nL args RX5 g F) (hP : PM g F o ad M H) (k j : Nat) {i v : Int32} (hd : decode cc pc = .ok (.baload, 1)) (hi : i = nI j) (hj : j < mL k) (hv : M k j = v) (ha : mA k = true := by rfl) (hy : mY k = 2 := by rfl) (hl : Nat.ble (mL k) 100 = true := by rfl)
    (kk : W p l e R s m args below meth c H locs cells slots Q (F0 m (pc + 1) ls (.int v :: rest))) : W p l e R s m args below meth c H locs cells slots Q (F0 m pc ls (.int i :: .ref (ad k) :: rest)) := by
  obtain ⟨h1, h2⟩ := vp_in9 hi hj hl
  have h3 := hP.2.2 k ha
  rw [hy] at h3
  exact w_zald E h3 h1 hd (by rw [h2, hv]; exact kk)
theorem msi (E : EN p s m c cc nL args RX5 g F) (hS : va_S (nF F) H0 H locs) (hP : PM g F o ad M H) (k j : Nat) {i v : Int32} (hd : decode cc pc = .ok (.iastore, 1)) (hi : i = nI j) (hj : j < mL k) (ha : mA k = true := by rfl) (hy : mY k = 0 := by rfl) (hl : Nat.ble (mL k) 100 = true := by rfl)
    (kk : ∀ (H1 : Heap) (locs1 : List Loc), va_S (nF F) H0 H1 locs1 → PM g F o ad (tu M k j v) H1 → W p l e R s m args below meth c H1 locs1 cells slots Q (F0 m (pc + 1) ls rest)) : W p l e R s m args below meth c H locs cells slots Q (F0 m pc ls (.int v :: .int i :: .ref (ad k) :: rest)) := by
  obtain ⟨h1, h2⟩ := vp_in9 hi hj hl
  have h3 := hP.2.2 k ha
  rw [hy] at h3
  exact w_iast E hS h3 (hP.1.2 k ha).1 h1 hd fun H1 locs1 e1 z oq hS1 => kk H1 locs1 hS1 (hP.ast ha (by rw [hy]; rw [h2] at e1; exact e1) oq)
theorem msc (E : EN p s m c cc nL args RX5 g F) (hS : va_S (nF F) H0 H locs) (hP : PM g F o ad M H) (k j : Nat) {i v : Int32} (hd : decode cc pc = .ok (.castore, 1)) (hi : i = nI j) (hj : j < mL k) (hn : narrow .char (.int v) = .int v) (ha : mA k = true := by rfl) (hy : mY k = 1 := by rfl) (hl : Nat.ble (mL k) 100 = true := by rfl)
    (kk : ∀ (H1 : Heap) (locs1 : List Loc), va_S (nF F) H0 H1 locs1 → PM g F o ad (tu M k j v) H1 → W p l e R s m args below meth c H1 locs1 cells slots Q (F0 m (pc + 1) ls rest)) : W p l e R s m args below meth c H locs cells slots Q (F0 m pc ls (.int v :: .int i :: .ref (ad k) :: rest)) := by
  obtain ⟨h1, h2⟩ := vp_in9 hi hj hl
  have h3 := hP.2.2 k ha
  rw [hy] at h3
  exact w_cast E hS h3 (hP.1.2 k ha).1 hn h1 hd fun H1 locs1 e1 z oq hS1 => kk H1 locs1 hS1 (hP.ast ha (by rw [hy]; rw [h2] at e1; exact e1) oq)
theorem msz (E : EN p s m c cc nL args RX5 g F) (hS : va_S (nF F) H0 H locs) (hP : PM g F o ad M H) (k j : Nat) {i v : Int32} (hd : decode cc pc = .ok (.bastore, 1)) (hi : i = nI j) (hj : j < mL k) (hn : narrow .boolean (.int v) = .int v) (ha : mA k = true := by rfl) (hy : mY k = 2 := by rfl) (hl : Nat.ble (mL k) 100 = true := by rfl)
    (kk : ∀ (H1 : Heap) (locs1 : List Loc), va_S (nF F) H0 H1 locs1 → PM g F o ad (tu M k j v) H1 → W p l e R s m args below meth c H1 locs1 cells slots Q (F0 m (pc + 1) ls rest)) : W p l e R s m args below meth c H locs cells slots Q (F0 m pc ls (.int v :: .int i :: .ref (ad k) :: rest)) := by
  obtain ⟨h1, h2⟩ := vp_in9 hi hj hl
  have h3 := hP.2.2 k ha
  rw [hy] at h3
  exact w_zast E hS h3 (hP.1.2 k ha).1 hn h1 hd fun H1 locs1 e1 z oq hS1 => kk H1 locs1 hS1 (hP.ast ha (by rw [hy]; rw [h2] at e1; exact e1) oq)
end MR
section BR
variable {p : Program} {l : Launch} {e : Env} {R : Room} {s : State} {m : MethodId} {args : Array Value} {below : List Frame} {meth : Method} {c : Code} {H : Heap} {locs : List Loc} {cells slots : Nat} {Q : State → Prop}
variable {cc : ByteArray} {pc : Nat} {ls : Array Slot} {rest : List Value} {P : Prop}
theorem bz_eq [Decidable P] (hexec : p.tables.exec = Jvm.exec) (hb : c.code = cc) {off : Int} {tgt : Nat} (hdg : decode cc pc = .ok (.ifCond .eq off, 3)) (ht : (pc : Int) + off = (tgt : Int))
    (kt : ¬ P → W p l e R s m args below meth c H locs cells slots Q (F0 m tgt ls rest)) (kf : P → W p l e R s m args below meth c H locs cells slots Q (F0 m (pc + 3) ls rest)) : W p l e R s m args below meth c H locs cells slots Q (F0 m pc ls (.int (b2i P) :: rest)) :=
  lv_if_eq hexec hb hdg ht (fun h => kt (b2i_0.mp h)) (fun h => kf (Decidable.not_not.mp (fun z => h (b2i_0.mpr z))))
theorem bz_ne [Decidable P] (hexec : p.tables.exec = Jvm.exec) (hb : c.code = cc) {off : Int} {tgt : Nat} (hdg : decode cc pc = .ok (.ifCond .ne off, 3)) (ht : (pc : Int) + off = (tgt : Int))
    (kt : P → W p l e R s m args below meth c H locs cells slots Q (F0 m tgt ls rest)) (kf : ¬ P → W p l e R s m args below meth c H locs cells slots Q (F0 m (pc + 3) ls rest)) : W p l e R s m args below meth c H locs cells slots Q (F0 m pc ls (.int (b2i P) :: rest)) :=
  lv_if_ne hexec hb hdg ht (fun h => kt (Decidable.not_not.mp (fun z => h (b2i_0.mpr z)))) (fun h => kf (b2i_0.mp h))
end BR
end
section
/-! what the model's methods do, as functions of the table -/
def mTod (M : TT) : Int32 := M 23 0 - M 23 0 / 100 * 100
def mWhy (M : TT) (b f : Nat) : Int32 :=
  if nI f = 0 then 110 else if M 5 b = 0 then (if M 1 f = -1 then (if M 2 f ≤ mTod M ∧ mTod M ≤ M 3 f - 1 then 110 else 104) else (if M 1 f = M 4 b then 110 else 116)) else 114
def mAb (M : TT) (l : Nat) : Nat → Int32
  | 0 => 0
  | r + 1 => mAb M l r + (if M 13 r = 97 then (if M 10 r = nI l then 1 else 0) else 0)
def mSn (M : TT) (l : Nat) : Nat → Int32
  | 0 => 0
  | r + 1 => mSn M l r + (if M 13 r = 100 then 0 else (if M 10 r = nI l then 1 else 0))
def iabs (x : Int32) : Int32 := if 0 ≤ x then x else 0 - x
def mScore (M : TT) (nR l : Nat) (fl : Int32) : Int32 := iabs (M 18 l - fl) + 2 * mSn M l nR
def oI : Option Nat → Int32
  | none => -1
  | some b => nI b
def mBst (M : TT) (nR : Nat) (fl : Int32) : Nat → Option Nat
  | 0 => none
  | l + 1 => if M 20 l = 115 then (match mBst M nR fl l with
      | none => some l
      | some b => if mScore M nR b fl ≤ mScore M nR l fl then some b else some l) else mBst M nR fl l
def mGives (M : TT) (nR nL r : Nat) : TT := tu M 10 r (oI (mBst M nR (M 8 r) nL))
def mEnds (M : TT) (r : Nat) (f : Int32) : TT :=
  tu (tu (tu (tu (tu (if M 13 r = 119 then tu M 12 r (M 23 0) else M) 13 r 100) 8 r f) 10 r (-1)) 15 0 (M 15 0 + 1)) 16 0 (M 16 0 + 1)
def exB (p : Nat → Bool) : Nat → Bool
  | 0 => false
  | n + 1 => exB p n || p n
theorem exB_iff {p : Nat → Bool} {n : Nat} : exB p n = true ↔ ∃ i, i < n ∧ p i = true := by
  induction n with
  | zero => simp [exB]
  | succ n ih =>
    simp only [exB, Bool.or_eq_true, ih]
    constructor
    · rintro (⟨i, h1, h2⟩ | h)
      · exact ⟨i, by omega, h2⟩
      · exact ⟨n, by omega, h⟩
    · rintro ⟨i, h1, h2⟩
      rcases Nat.lt_or_ge i n with h | h
      · exact Or.inl ⟨i, h, h2⟩
      · have : i = n := by omega
        subst this; exact Or.inr h2
theorem exB_of {p : Nat → Bool} {n i : Nat} (hi : i < n) (h : p i = true) : exB p n = true := exB_iff.mpr ⟨i, hi, h⟩
abbrev bet (x lo hi : Int32) : Prop := lo ≤ x ∧ x ≤ hi
def mF (M : TT) (k : Int32) : Int32 × TT := (0, tu (tu M 0 0 0) 0 0 k)
def mAddLift (M : TT) (nL : Nat) (x : Int32) : Int32 × TT :=
  if bet x 1 4 then (if nI nL = 3 then mF M 2 else (nI nL + 1 - 1, tu (tu (tu (tu (tu M 0 0 0) 17 nL x) 20 nL 115) 21 nL 1) 22 0 (nI nL + 1))) else mF M 1
def mSetTenant (M : TT) (x y : Int32) : Int32 × TT :=
  if bet x 1 9 then (if bet y (-1) 3 then (M 1 x.toNatClampNeg, tu (tu M 0 0 0) 1 x.toNatClampNeg y) else mF M 2) else mF M 1
def mSetHours (M : TT) (x y z : Int32) : Int32 × TT :=
  if bet x 1 9 then (if bet y 0 99 then (if bet z (y + 1) 100 then (z - y, tu (tu (tu M 0 0 0) 2 x.toNatClampNeg y) 3 x.toNatClampNeg z) else mF M 2) else mF M 2) else mF M 1
def mAddBadge (M : TT) (nB : Nat) (x : Int32) : Int32 × TT :=
  if bet x 0 3 then (if nI nB = 8 then mF M 2 else (nI nB + 1 - 1, tu (tu (tu M 0 0 0) 4 nB x) 6 0 (nI nB + 1))) else mF M 1
def mSetRevoked (M : TT) (nB : Nat) (x v : Int32) : Int32 × TT :=
  if bet x 0 (nI nB - 1) then (M 5 x.toNatClampNeg, tu (tu M 0 0 0) 5 x.toNatClampNeg v) else mF M 1
def mReason (M : TT) (nB : Nat) (x y : Int32) : Int32 × TT :=
  if bet x 0 (nI nB - 1) then (if bet y 0 9 then (mWhy (tu M 0 0 0) x.toNatClampNeg y.toNatClampNeg, tu M 0 0 0) else mF M 1) else mF M 1
def mIsOut (M : TT) (b nR : Nat) : Bool := exB (fun r => decide (M 7 r = nI b) && !decide (M 13 r = 100)) nR
def mCall0 (M : TT) (nR : Nat) (x y z : Int32) : TT :=
  tu (tu (tu (tu (tu (tu (tu (tu (tu M 0 0 0) 7 nR x) 13 nR 119) 8 nR y) 9 nR z) 10 nR (-1)) 11 nR (M 23 0)) 14 0 (nI nR + 1)) 15 0 (M 15 0 + 1)
def mCall (M : TT) (nB nR nL : Nat) (x y z : Int32) : Int32 × TT :=
  if bet x 0 (nI nB - 1) then (if bet y 0 9 then (if bet z 0 9 then (
    if y = z then mF M 2 else if mWhy (tu M 0 0 0) x.toNatClampNeg z.toNatClampNeg = 110 then (
      if mIsOut (tu M 0 0 0) x.toNatClampNeg nR = true then mF M 4 else if M 27 0 = 0 then (if nI nR = 30 then mF M 4 else (nI nR, mGives (mCall0 M nR x y z) (nR + 1) nL nR)) else mF M 4) else mF M 3)
    else mF M 1) else mF M 1) else mF M 1
def mNobody (M : TT) (nR : Nat) (x : Int32) : TT := if bet x 0 (nI nR - 1) then tu M 0 0 0 else tu M 0 0 1
def mNoLift (M : TT) (nL : Nat) (x : Int32) : TT := if bet x 0 (nI nL - 1) then tu M 0 0 0 else tu M 0 0 1
def mStateOf (M : TT) (nR : Nat) (x : Int32) : Int32 := if bet x 0 (nI nR - 1) then M 13 x.toNatClampNeg else 0
def mAim (M : TT) (nR : Nat) (x : Int32) : Int32 := if bet x 0 (nI nR - 1) then M 9 x.toNatClampNeg else 0
def mFloorOf (M : TT) (nR : Nat) (x : Int32) : Int32 := if bet x 0 (nI nR - 1) then (if M 13 x.toNatClampNeg = 97 then M 18 (M 10 x.toNatClampNeg).toNatClampNeg else M 8 x.toNatClampNeg) else 0
def mLiftOf (M : TT) (nR : Nat) (x : Int32) : Int32 × TT := if bet x 0 (nI nR - 1) then (if M 10 x.toNatClampNeg < 0 then (0, tu (tu M 0 0 0) 0 0 2) else (M 10 x.toNatClampNeg, tu M 0 0 0)) else (0, tu M 0 0 1)
def mWb (M : TT) (r : Nat) : Int32 := if M 13 r = 119 then M 23 0 - M 11 r else M 12 r - M 11 r
def mWaited (M : TT) (nR : Nat) (x : Int32) : Int32 := if bet x 0 (nI nR - 1) then mWb M x.toNatClampNeg else 0
def mFs (M : TT) (lf : Int32) (r : Nat) (n : Int32) : TT × Int32 :=
  if M 13 r = 119 then (if M 10 r < 0 then (M, n) else if lf < 0 then (tu M 10 r (-1), n + 1) else if M 10 r = lf then (tu M 10 r (-1), n + 1) else (M, n)) else (M, n)
def mFrees (M : TT) (lf : Int32) : Nat → TT × Int32
  | 0 => (M, 0)
  | r + 1 => mFs (mFrees M lf r).1 lf r (mFrees M lf r).2
def mCallOff (M : TT) (nR nL : Nat) (x : Int32) : Int32 × TT :=
  if bet x 0 (nI nL - 1) then (if M 20 x.toNatClampNeg = 115 then (if M 27 0 = 0 then ((mFrees (tu (tu M 0 0 0) 20 x.toNatClampNeg 111) x nR).2, (mFrees (tu (tu M 0 0 0) 20 x.toNatClampNeg 111) x nR).1) else mF M 2) else mF M 2) else mF M 1
def mLiftGet (M : TT) (nL k : Nat) (x : Int32) : Int32 := if bet x 0 (nI nL - 1) then M k x.toNatClampNeg else 0
def mAboard (M : TT) (nR nL : Nat) (x : Int32) : Int32 := if bet x 0 (nI nL - 1) then mAb M x.toNatClampNeg nR else 0
def mScoreA (M : TT) (nR nL : Nat) (x y : Int32) : Int32 × TT := if bet x 0 (nI nL - 1) then (if bet y 0 9 then (mScore M nR x.toNatClampNeg y, tu M 0 0 0) else (0, tu M 0 0 1)) else (0, tu M 0 0 1)
def mO1s (M : TT) (l r : Nat) (a : Int32) : TT × Int32 :=
  if M 13 r = 97 then (if M 10 r = nI l then (if M 9 r = M 18 l then (if mWhy M (M 7 r).toNatClampNeg (M 18 l).toNatClampNeg = 110 then (mEnds M r (M 18 l), 1) else (tu (tu M 9 r 0) 25 0 (M 25 0 + 1), a)) else (M, a)) else (M, a)) else (M, a)
def mO1 (M : TT) (l : Nat) : Nat → TT × Int32
  | 0 => (M, 0)
  | r + 1 => mO1s (mO1 M l r).1 l r (mO1 M l r).2
def mO2s (M : TT) (nR l r : Nat) (a : Int32) : TT × Int32 :=
  if M 13 r = 119 then (if M 10 r = nI l then (if M 8 r = M 18 l then (if mAb M l nR = M 17 l then (M, a) else (tu (tu (tu M 13 r 97) 12 r (M 23 0)) 15 0 (M 15 0 + 1), 1)) else (M, a)) else (M, a)) else (M, a)
def mO2 (M : TT) (a : Int32) (nR l : Nat) : Nat → TT × Int32
  | 0 => (M, a)
  | r + 1 => mO2s (mO2 M a nR l r).1 nR l r (mO2 M a nR l r).2
def mOpens (M : TT) (nR l : Nat) : TT × Int32 := if M 20 l = 115 then mO2 (mO1 M l nR).1 (mO1 M l nR).2 nR l nR else mO1 M l nR
def mIsAim (M : TT) (nR l r : Nat) (f : Int32) : Bool :=
  if M 10 r = nI l then (if M 13 r = 100 then false else if M 13 r = 97 then decide (M 9 r = f) else if M 8 r = f then (if M 20 l = 115 then !decide (M 17 l ≤ mAb M l nR) else false) else false) else false
def mHasAim (M : TT) (nR l a b : Nat) : Bool := exB (fun j => exB (fun r => mIsAim M nR l r (nI (a + j))) nR) (b - a)
def mGo2 (M : TT) (nR l w : Nat) : TT :=
  if M 21 l = 0 then (if mHasAim M nR l 0 w = true then tu (tu M 21 l 0) 18 l (nI w + (-1)) else tu (tu M 21 l 1) 18 l (nI w + 1))
  else (if mHasAim M nR l (w + 1) 10 = true then tu (tu M 21 l (b2i (mHasAim M nR l (w + 1) 10 = true))) 18 l (nI w + 1) else tu (tu M 21 l (b2i (mHasAim M nR l (w + 1) 10 = true))) 18 l (nI w + (-1)))
def mGoes (M : TT) (nR l w : Nat) : TT :=
  if mHasAim M nR l (w + 1) 10 = true then mGo2 M nR l w else if mHasAim M nR l 0 w = true then mGo2 M nR l w
  else (if M 20 l = 111 then tu (tu M 20 l 99) 19 l 20 else M)
def mWorks (M : TT) (nR l : Nat) : TT :=
  if M 20 l = 99 then (if M 19 l - 1 = 0 then tu (tu M 19 l (M 19 l - 1)) 20 l 115 else tu M 19 l (M 19 l - 1))
  else if (mOpens M nR l).2 = 0 then mGoes (mOpens M nR l).1 nR l (M 18 l).toNatClampNeg else tu (mOpens M nR l).1 24 0 ((mOpens M nR l).1 24 0 + 1)
def mWaitsOn (M : TT) (nR : Nat) (f : Int32) : Bool := exB (fun r => decide (M 13 r = 119) && decide (M 8 r = f)) nR
def mTn (M : TT) (nR : Nat) : Nat → Nat → Int32
  | 0, _ => -1
  | n + 1, k => if mWaitsOn M nR (M 26 0 + nI k) = true then M 26 0 + nI k else if mWaitsOn M nR (M 26 0 - nI k) = true then M 26 0 - nI k else mTn M nR n (k + 1)
def mOm (M : TT) : Nat → Int32
  | 0 => 0
  | r + 1 => mOm M r + (if M 13 r = 100 then 0 else 1)
def mGs (M : TT) (nR nL : Nat) (t : Int32) (r : Nat) : TT :=
  if M 13 r = 119 then (if 0 ≤ M 10 r then M else (if M 27 0 = 0 then mGives M nR nL r else if M 8 r = t then mGives M nR nL r else M)) else M
def mGall (M : TT) (nR nL : Nat) (t : Int32) : Nat → TT
  | 0 => M
  | r + 1 => mGs (mGall M nR nL t r) nR nL t r
def mWall (M : TT) (nR : Nat) : Nat → TT
  | 0 => M
  | l + 1 => mWorks (mWall M nR l) nR l
def mPt (M : TT) (nR : Nat) : Int32 := if M 27 0 = 0 then -1 else mTn M nR 10 0
def mP1 (M : TT) (nR : Nat) : TT := if M 27 0 = 0 then M else (mFrees M (-1) nR).1
def mPend (M : TT) (nR : Nat) : TT := tu (tu M 23 0 (M 23 0 + 1)) 27 0 (if M 27 0 = 0 then 0 else if mOm (tu M 23 0 (M 23 0 + 1)) nR ≤ 0 then 0 else 1)
def mPass1 (M : TT) (nR nL : Nat) : TT := mPend (mWall (mGall (mP1 M nR) nR nL (mPt M nR) nR) nR nL) nR
def mPassN (M : TT) (nR nL : Nat) : Nat → TT
  | 0 => M
  | n + 1 => mPass1 (mPassN M nR nL n) nR nL
def mPass (M : TT) (nR nL : Nat) (x : Int32) : Int32 × TT :=
  if bet x 1 100 then ((mPassN (tu M 0 0 0) nR nL x.toNatClampNeg) 16 0 - M 16 0, mPassN (tu M 0 0 0) nR nL x.toNatClampNeg) else mF M 1
def mAls (M : TT) (r : Nat) : TT :=
  if M 13 r = 100 then M else if M 13 r = 119 then (if M 8 r = 0 then mEnds (tu M 9 r 0) r 0 else tu M 9 r 0) else tu M 9 r 0
def mAl (M : TT) : Nat → TT
  | 0 => M
  | r + 1 => mAls (mAl M r) r
def mAlarm (M : TT) (nR : Nat) (x : Int32) : Int32 × TT :=
  if bet x 0 9 then (if M 27 0 = 0 then (if mOm (tu M 0 0 0) nR = 0 then mF M 2 else
    (let M1 := mAl (mFrees (tu (tu (tu M 0 0 0) 27 0 1) 26 0 x) (-1) nR).1 nR; (mOm M1 nR, M1))) else mF M 2) else mF M 1
def mTurn (M : TT) (nR : Nat) : Int32 × TT := if 0 ≤ mPt (tu M 0 0 0) nR then (mPt (tu M 0 0 0) nR, tu M 0 0 0) else mF M 1
def mIsUp (M : TT) (nL : Nat) (x : Int32) : Int32 := b2i (bet x 0 (nI nL - 1) ∧ ¬ M 21 x.toNatClampNeg = 0)
def mWsum (M : TT) : Nat → Int32
  | 0 => 0
  | r + 1 => mWsum M r + mWb M r
/-! numbers -/
theorem I32le {a b : Int32} : a ≤ b ↔ a.toInt ≤ b.toInt := Int32.le_iff_toInt_le
theorem bet_nI {x : Int32} (lo hi : Int32) (a b : Nat) (h : bet x lo hi) (h1 : lo.toInt = a) (h2 : hi.toInt = b) : ∃ j : Nat, x = nI j ∧ a ≤ j ∧ j ≤ b := by
  obtain ⟨q1, q2⟩ := h
  rw [I32le] at q1 q2
  have hx : ¬ x < 0 := by
    rw [Int32.lt_iff_toInt_lt]
    have : (0 : Int32).toInt = 0 := rfl
    omega
  obtain ⟨j, hj, rfl⟩ := nI_of hx
  rw [nI_toInt hj] at q1 q2
  exact ⟨j, rfl, by omega, by omega⟩
theorem pred_toInt {n : Nat} (hn : n < 1000) : (nI n - 1).toInt = (n : Int) - 1 := pk_sub_toInt (b := 1) (by omega) (by omega)
theorem betc_nI {x : Int32} {n : Nat} (h : bet x 0 (nI n - 1)) (hn : n < 1000) : ∃ j : Nat, x = nI j ∧ j < n := by
  obtain ⟨q1, q2⟩ := h
  rw [I32le] at q1 q2
  rw [pred_toInt hn] at q2
  have h0 : (0 : Int32).toInt = 0 := rfl
  have hx : ¬ x < 0 := by
    rw [Int32.lt_iff_toInt_lt]
    omega
  obtain ⟨j, hj, rfl⟩ := nI_of hx
  rw [nI_toInt hj] at q1 q2
  exact ⟨j, rfl, by omega⟩
theorem le_pred {f b : Nat} (hf : f < 1000) (hb : b < 1000) : nI f ≤ nI b - 1 ↔ f < b := by
  rw [I32le, pred_toInt hb, nI_toInt (by omega)]
  omega
/-! rows that stay -/
def mOk (k : Nat) : Bool := !(k == 8 || k == 9 || k == 10 || k == 12 || k == 13 || k == 15 || k == 16 || k == 25)
def mWk (k : Nat) : Bool := mOk k && !(k == 18 || k == 19 || k == 20 || k == 21 || k == 24)
theorem mEnds_k {M : TT} {r k : Nat} {f : Int32} (h : mOk k = true) : mEnds M r f k = M k := by
  have h8 : k ≠ 8 := by rintro rfl; cases h
  have h10 : k ≠ 10 := by rintro rfl; cases h
  have h12 : k ≠ 12 := by rintro rfl; cases h
  have h13 : k ≠ 13 := by rintro rfl; cases h
  have h15 : k ≠ 15 := by rintro rfl; cases h
  have h16 : k ≠ 16 := by rintro rfl; cases h
  unfold mEnds
  rw [tu_r h16, tu_r h15, tu_r h10, tu_r h8, tu_r h13]
  split
  · rw [tu_r h12]
  · rfl
theorem mGives_k {M : TT} {nR nL r k : Nat} (h : k ≠ 10) : mGives M nR nL r k = M k := tu_r h
theorem mFs_k {M : TT} {lf n : Int32} {r k : Nat} (h : k ≠ 10) : (mFs M lf r n).1 k = M k := by
  unfold mFs
  repeat' split
  all_goals first | rfl | exact tu_r h
theorem mFrees_k {M : TT} {lf : Int32} {k : Nat} (h : k ≠ 10) : ∀ r, (mFrees M lf r).1 k = M k
  | 0 => rfl
  | r + 1 => (mFs_k h).trans (mFrees_k h r)
theorem mO1s_k {M : TT} {l r k : Nat} {a : Int32} (h : mOk k = true) : (mO1s M l r a).1 k = M k := by
  have h9 : k ≠ 9 := by rintro rfl; cases h
  have h25 : k ≠ 25 := by rintro rfl; cases h
  unfold mO1s
  repeat' split
  all_goals first | rfl | exact mEnds_k h | (show tu _ _ _ _ k = _; rw [tu_r h25, tu_r h9])
theorem mO1_k {M : TT} {l k : Nat} (h : mOk k = true) : ∀ r, (mO1 M l r).1 k = M k
  | 0 => rfl
  | r + 1 => (mO1s_k h).trans (mO1_k h r)
theorem mO2s_k {M : TT} {nR l r k : Nat} {a : Int32} (h : mOk k = true) : (mO2s M nR l r a).1 k = M k := by
  have h12 : k ≠ 12 := by rintro rfl; cases h
  have h13 : k ≠ 13 := by rintro rfl; cases h
  have h15 : k ≠ 15 := by rintro rfl; cases h
  unfold mO2s
  repeat' split
  all_goals first | rfl | (show tu _ _ _ _ k = _; rw [tu_r h15, tu_r h12, tu_r h13])
theorem mO2_k {M : TT} {nR l k : Nat} {a : Int32} (h : mOk k = true) : ∀ r, (mO2 M a nR l r).1 k = M k
  | 0 => rfl
  | r + 1 => (mO2s_k h).trans (mO2_k h r)
theorem mOpens_k {M : TT} {nR l k : Nat} (h : mOk k = true) : (mOpens M nR l).1 k = M k := by
  unfold mOpens
  split
  · exact (mO2_k h nR).trans (mO1_k h nR)
  · exact mO1_k h nR
theorem mGo2_k {M : TT} {nR l w k : Nat} (h : k ≠ 21) (h2 : k ≠ 18) : mGo2 M nR l w k = M k := by
  unfold mGo2
  repeat' split
  all_goals rw [tu_r h2, tu_r h]
theorem mGoes_k {M : TT} {nR l w k : Nat} (h : k ≠ 21) (h2 : k ≠ 18) (h3 : k ≠ 20) (h4 : k ≠ 19) : mGoes M nR l w k = M k := by
  unfold mGoes
  repeat' split
  all_goals first | exact mGo2_k h h2 | rfl | rw [tu_r h4, tu_r h3]
theorem mWorks_k {M : TT} {nR l k : Nat} (h : mWk k = true) : mWorks M nR l k = M k := by
  have h0 : mOk k = true := by
    unfold mWk at h
    exact (Bool.and_eq_true_iff.mp h).1
  have h18 : k ≠ 18 := by rintro rfl; cases h
  have h19 : k ≠ 19 := by rintro rfl; cases h
  have h20 : k ≠ 20 := by rintro rfl; cases h
  have h21 : k ≠ 21 := by rintro rfl; cases h
  have h24 : k ≠ 24 := by rintro rfl; cases h
  unfold mWorks
  repeat' split
  · rw [tu_r h20, tu_r h19]
  · rw [tu_r h19]
  · rw [mGoes_k h21 h18 h20 h19, mOpens_k h0]
  · rw [tu_r h24, mOpens_k h0]
/-- every lift is on a floor -/
def mWh (M : TT) (nL : Nat) : Prop := ∀ l, l < nL → ∃ w, w < 10 ∧ M 18 l = nI w
theorem mHasAim_lt {M : TT} {nR l a b : Nat} (h : mHasAim M nR l a b = true) : a < b := by
  obtain ⟨j, hj, -⟩ := exB_iff.mp h
  omega
theorem mGo2_wh {M : TT} {nR l w nL : Nat} (hm : mWh M nL) (hl : l < nL) (hw : M 18 l = nI w) (hw10 : w < 10) (h : mHasAim M nR l (w + 1) 10 = true ∨ mHasAim M nR l 0 w = true) : mWh (mGo2 M nR l w) nL := by
  have key : ∀ (v : Int32) (q : TT) (w2 : Nat), w2 < 10 → v = nI w2 → (∀ l2, l2 ≠ l → q 18 l2 = M 18 l2) → mWh (tu q 18 l v) nL := by
    intro v q w2 h1 h2 h3 l2 hl2
    by_cases e : l2 = l
    · subst e; exact ⟨w2, h1, by rw [tu_s, h2]⟩
    · obtain ⟨w3, h4, h5⟩ := hm l2 hl2
      exact ⟨w3, h4, by rw [tu_i e, h3 l2 e, h5]⟩
  have up : ∀ (q : TT), mHasAim M nR l (w + 1) 10 = true → (∀ l2, l2 ≠ l → q 18 l2 = M 18 l2) → mWh (tu q 18 l (nI w + 1)) nL := by
    intro q h1 h2
    have := mHasAim_lt h1
    exact key _ q (w + 1) (by omega) (nI_1 w) h2
  have dn : ∀ (q : TT), mHasAim M nR l 0 w = true → (∀ l2, l2 ≠ l → q 18 l2 = M 18 l2) → mWh (tu q 18 l (nI w + (-1))) nL := by
    intro q h1 h2
    have := mHasAim_lt h1
    obtain ⟨v, rfl⟩ : ∃ v, w = v + 1 := ⟨w - 1, by omega⟩
    exact key _ q v (by omega) (pk_m1 v) h2
  unfold mGo2
  split
  · split
    · exact dn _ (by assumption) (fun l2 _ => tu_k (by decide))
    · exact up _ (by rcases h with h | h <;> first | assumption | contradiction) (fun l2 _ => tu_k (by decide))
  · split
    · exact up _ (by assumption) (fun l2 _ => tu_k (by decide))
    · exact dn _ (by rcases h with h | h <;> first | assumption | contradiction) (fun l2 _ => tu_k (by decide))
theorem mWh_of {M N : TT} {nL : Nat} (h : mWh M nL) (e : N 18 = M 18) : mWh N nL := fun l hl => by
  obtain ⟨w, h1, h2⟩ := h l hl
  exact ⟨w, h1, by rw [e]; exact h2⟩
theorem mGoes_wh {M : TT} {nR l w nL : Nat} (hm : mWh M nL) (hl : l < nL) (hw : M 18 l = nI w) (hw10 : w < 10) : mWh (mGoes M nR l w) nL := by
  unfold mGoes
  repeat' split
  · exact mGo2_wh hm hl hw hw10 (Or.inl (by assumption))
  · exact mGo2_wh hm hl hw hw10 (Or.inr (by assumption))
  · exact mWh_of hm (by rw [tu_r (by decide), tu_r (by decide)])
  · exact hm
theorem mWorks_wh {M : TT} {nR l nL : Nat} (hm : mWh M nL) (hl : l < nL) : mWh (mWorks M nR l) nL := by
  obtain ⟨w, h1, h2⟩ := hm l hl
  unfold mWorks
  repeat' split
  · exact mWh_of hm (by rw [tu_r (by decide), tu_r (by decide)])
  · exact mWh_of hm (by rw [tu_r (by decide)])
  · rw [h2, nI_clamp (by omega)]
    exact mGoes_wh (mWh_of hm (mOpens_k rfl)) hl (by rw [mOpens_k rfl]; exact h2) h1
  · exact mWh_of hm (by rw [tu_r (by decide), mOpens_k rfl])
theorem mWall_k {M : TT} {nR k : Nat} (h : mWk k = true) : ∀ n, mWall M nR n k = M k
  | 0 => rfl
  | n + 1 => (mWorks_k h).trans (mWall_k h n)
theorem mWall_wh {M : TT} {nR nL : Nat} (hm : mWh M nL) : ∀ n, n ≤ nL → mWh (mWall M nR n) nL
  | 0, _ => hm
  | n + 1, h => mWorks_wh (mWall_wh hm n (by omega)) (by omega)
theorem mGs_k {M : TT} {nR nL r k : Nat} {t : Int32} (h : k ≠ 10) : mGs M nR nL t r k = M k := by
  unfold mGs
  repeat' split
  all_goals first | rfl | exact mGives_k h
theorem mGall_k {M : TT} {nR nL k : Nat} {t : Int32} (h : k ≠ 10) : ∀ n, mGall M nR nL t n k = M k
  | 0 => rfl
  | n + 1 => (mGs_k h).trans (mGall_k h n)
theorem mP1_k {M : TT} {nR k : Nat} (h : k ≠ 10) : mP1 M nR k = M k := by
  unfold mP1
  split
  · rfl
  · exact mFrees_k h nR
theorem mWk_10 {k : Nat} (h : mWk k = true) : k ≠ 10 := by rintro rfl; cases h
theorem mPass1_k {M : TT} {nR nL k : Nat} (h : mWk k = true) (h23 : k ≠ 23) (h27 : k ≠ 27) : mPass1 M nR nL k = M k := by
  unfold mPass1 mPend
  rw [tu_r h27, tu_r h23, mWall_k h, mGall_k (mWk_10 h), mP1_k (mWk_10 h)]
theorem mPass1_wh {M : TT} {nR nL : Nat} (hm : mWh M nL) : mWh (mPass1 M nR nL) nL := by
  unfold mPass1 mPend
  refine mWh_of (mWall_wh (mWh_of hm ?_) nL (Nat.le_refl _)) (by rw [tu_r (by decide), tu_r (by decide)])
  rw [mGall_k (by decide), mP1_k (by decide)]
theorem mPassN_k {M : TT} {nR nL k : Nat} (h : mWk k = true) (h23 : k ≠ 23) (h27 : k ≠ 27) : ∀ n, mPassN M nR nL n k = M k
  | 0 => rfl
  | n + 1 => (mPass1_k h h23 h27).trans (mPassN_k h h23 h27 n)
theorem mPassN_wh {M : TT} {nR nL : Nat} (hm : mWh M nL) : ∀ n, mWh (mPassN M nR nL n) nL
  | 0 => hm
  | n + 1 => mPass1_wh (mPassN_wh hm n)
theorem mAls_k {M : TT} {r k : Nat} (h : mOk k = true) : mAls M r k = M k := by
  have h9 : k ≠ 9 := by rintro rfl; cases h
  unfold mAls
  repeat' split
  all_goals first | rfl | exact tu_r h9 | (rw [mEnds_k h, tu_r h9])
theorem mAl_k {M : TT} {k : Nat} (h : mOk k = true) : ∀ r, mAl M r k = M k
  | 0 => rfl
  | r + 1 => (mAls_k h).trans (mAl_k h r)
theorem mWhy_c {M : TT} {b f : Nat} : narrow .char (.int (mWhy M b f)) = .int (mWhy M b f) := by
  unfold mWhy
  repeat' split
  all_goals rfl
theorem i2c_0 : ((0 : Int32).toUInt32 % 65536).toInt32 = 0 := by decide
theorem mWb_0 {M : TT} {v : Int32} {r : Nat} : mWb (tu M 0 0 v) r = mWb M r := by simp only [mWb, tu_k (show (13 : Nat) ≠ 0 by decide), tu_k (show (23 : Nat) ≠ 0 by decide), tu_k (show (11 : Nat) ≠ 0 by decide), tu_k (show (12 : Nat) ≠ 0 by decide)]
theorem mAb_cg {M N : TT} {l : Nat} (h13 : N 13 = M 13) (h10 : N 10 = M 10) : ∀ n, mAb N l n = mAb M l n
  | 0 => rfl
  | n + 1 => by simp only [mAb, h13, h10, mAb_cg h13 h10 n]
theorem mAb_0 {M : TT} {v : Int32} {l n : Nat} : mAb (tu M 0 0 v) l n = mAb M l n := mAb_cg (tu_r (by decide)) (tu_r (by decide)) n
theorem mSn_cg {M N : TT} {l : Nat} (h13 : N 13 = M 13) (h10 : N 10 = M 10) : ∀ n, mSn N l n = mSn M l n
  | 0 => rfl
  | n + 1 => by simp only [mSn, h13, h10, mSn_cg h13 h10 n]
theorem mScore_cg {M N : TT} {nR l : Nat} {f : Int32} (h13 : N 13 = M 13) (h10 : N 10 = M 10) (h18 : N 18 = M 18) : mScore N nR l f = mScore M nR l f := by
  simp only [mScore, h18, mSn_cg h13 h10]
theorem mScore_0 {M : TT} {v : Int32} {nR l : Nat} {f : Int32} : mScore (tu M 0 0 v) nR l f = mScore M nR l f := mScore_cg (tu_r (by decide)) (tu_r (by decide)) (tu_r (by decide))
theorem al_e {X N : TT} {i n : Nat} (h : N = mAl X i) (e : i = n) : mAl X n = N := by rw [h, e]
theorem gall_e {X N : TT} {nR nL i n : Nat} {t : Int32} (h : N = mGall X nR nL t i) (e : i = n) : mGall X nR nL t n = N := by rw [h, e]
theorem wall_e {X N : TT} {nR i n : Nat} (h : N = mWall X nR i) (e : i = n) : mWall X nR n = N := by rw [h, e]
theorem passN_e {X N : TT} {nR nL i n : Nat} (h : N = mPassN X nR nL i) (e : i = n) : mPassN X nR nL n = N := by rw [h, e]
end
section
/-! ArrayList: its members as contracts. A list is an object (its count of changes, its array, its size) and an array of references -/
abbrev alO (md : Int32) (q n : Nat) : va_E := .inr (2, [.int md, .ref q, .int (nI n)])
abbrev alA (g : cG) (cap : Nat) (f : Nat → Option Nat) : va_E := .inl (g.2.1 3, cap, .inr (.inr (.inr (.inr f))))
/-- an object of ours -/
def AO (g : cG) (y : Nat) (H : Heap) : Prop := ∃ (ci : Nat) (fs : List Value), (ci = 3 ∨ ci = 4 ∨ ci = 5 ∨ ci = 6) ∧ va_at g.1 vwCl (y, .inr (ci, fs)) H
theorem AO.kept {g : cG} {y : Nat} {H H1 : Heap} (h : AO g y H) (hq : H1[y]? = H[y]?) : AO g y H1 := by
  obtain ⟨ci, fs, h1, h2⟩ := h
  exact ⟨ci, fs, h1, h2.kept hq⟩
theorem AO.lt {g : cG} {y : Nat} {H : Heap} (h : AO g y H) : y < H.size := by
  obtain ⟨ci, fs, h1, h2⟩ := h
  exact h2.lt
/-- the list at a, with its array at q, holds the objects els -/
def AL (g : cG) (F : Nat → Prop) (a q : Nat) (els : List Nat) (H : Heap) : Prop :=
  ¬ F a ∧ (∃ md, va_at g.1 vwCl (a, alO md q els.length) H) ∧ (∀ y ∈ els, AO g y H) ∧
  ((els = [] ∧ q = g.2.2.1) ∨ (¬ F q ∧ q ≠ a ∧ ∃ (cap : Nat) (f : Nat → Option Nat), va_at g.1 vwCl (q, alA g cap f) H ∧ els.length ≤ cap ∧ 0 < cap ∧ cap ≤ 200 ∧ ∀ i, i < els.length → f i = els[i]?))
theorem AL.recv {g : cG} {F F2 : Nat → Prop} {a q : Nat} {els : List Nat} {H : Heap} {s : State} (hG : GE g F2 s) (h : AL g F a q els H) : ∃ cellB : Cell, H[a]? = some cellB ∧ cellB.vm.isStatics = false ∧ s.vm.findClass RJx4a65c = some cellB.cls := by
  obtain ⟨md, h1⟩ := h.2.1
  exact va_recv (q := (RJx4a65c, TJx4a65c, 3)) (q0 := 0) (ci := 2) hG.1 (va_P1 h1) rfl rfl
theorem AO.any {g : cG} {F : Nat → Prop} {s : State} {y : Nat} {H : Heap} (hG : GE g F s) (h : AO g y H) : va_Any "java/lang/Object" s H y := by
  obtain ⟨ci, fs, h1, h2⟩ := h
  have key : ∀ (r : vw_C), vwCl[ci]? = some r → Cond.castable r.1 "java/lang/Object" ∈ lw_n → va_Any "java/lang/Object" s H y := by
    intro r hr hc
    refine va_rAny (q0 := 0) hG.1 (va_P1 h2) rfl hr (fun comp c0 e1 e2 => ?_)
    obtain ⟨c1, t1, f1, f2, f3⟩ := Cond.castable_spec (args := #[]) (va_Nw.use (A := #[]) rfl (hG.2.1 _ hc))
    cases e2.symm.trans f1
    cases e1.symm.trans f2
    exact f3
  rcases h1 with rfl | rfl | rfl | rfl
  · exact key _ rfl ca_X0
  · exact key _ rfl ca_X1
  · exact key _ rfl ca_X2
  · exact key _ rfl ca_X3
section ALR
variable {p : Program} {l : Launch} {e : Env} {R : Room} {s : State} {m : MethodId} {args : Array Value} {below : List Frame} {meth : Method} {c : Code} {H : Heap} {locs : List Loc} {cells slots : Nat} {Q : State → Prop}
variable {cc : ByteArray} {pc nL : Nat} {ls : Array Slot} {rest : List Value} {g : cG} {F : Nat → Prop} {H0 : Heap} {a q n : Nat} {md : Int32}
theorem al_len (E : EN p s m c cc nL args RJx4a65c g F) (h : va_at g.1 vwCl (a, alO md q n) H) (hd : decode cc pc = .ok (.getfield 48, 3))
    (kk : W p l e R s m args below meth c H locs cells slots Q (F0 m (pc + 3) ls (.int (nI n) :: rest))) : W p l e R s m args below meth c H locs cells slots Q (F0 m pc ls (.ref a :: rest)) :=
  w_get E (C := RJx4a65c) (T := TJx4a65c) (N := 3) (ci := 2) ly_Jx4a65c h rfl 2 (by decide) rfl fk_Jx4a65c_48 rfl hd kk
theorem al_arr (E : EN p s m c cc nL args RJx4a65c g F) (h : va_at g.1 vwCl (a, alO md q n) H) (hd : decode cc pc = .ok (.getfield 9, 3))
    (kk : W p l e R s m args below meth c H locs cells slots Q (F0 m (pc + 3) ls (.ref q :: rest))) : W p l e R s m args below meth c H locs cells slots Q (F0 m pc ls (.ref a :: rest)) :=
  w_get E (C := RJx4a65c) (T := TJx4a65c) (N := 3) (ci := 2) ly_Jx4a65c h rfl 1 (by decide) rfl fk_Jx4a65c_9 rfl hd kk
end ALR
end
section
set_option maxHeartbeats 4000000 in
set_option maxRecDepth 100000 in
theorem c_AL_size (l : Launch) (g : cG) (F : Nat → Prop) (a n : Nat) (P : Heap → Prop) (hPl : ∀ H, P H → ∃ md q, va_at g.1 vwCl (a, alO md q n) H) : CT l yJx4a65c_size_8abf5 cJx4a65c_size_8abf5 1 (some .int) 0 0 0 0 g F [.ref a] P (fun v H => v = some (.int (nI n)) ∧ P H) := by
  refine CT.of (by decide) rfl ?_
  intro p e s m args below meth c E hr hk hnm hP ls hl
  have hS : va_S (nF F) s.heap s.heap [] := va_S.rf
  have hx := E.1
  have hb := E.2.1
  have hml := E.2.2.1
  have hown := E.2.2.2.1
  have hts := E.2.2.2.2.1
  have hG := E.2.2.2.2.2
  have hl : lv_has ls 1 [(0, .ref a)] := hl
  obtain ⟨md, q, h1⟩ := hPl _ hP
  refine lv_aload_n hx hb dJx4a65c_size_8abf5_0 rfl (lv_at hl 0 rfl) ?_
  refine al_len E h1 dJx4a65c_size_8abf5_1 ?_
  exact ct_iret E hr hk hS ⟨rfl, hP⟩ dJx4a65c_size_8abf5_4

set_option maxHeartbeats 4000000 in
set_option maxRecDepth 100000 in
theorem c_AL_isEmpty (l : Launch) (g : cG) (F : Nat → Prop) (a n : Nat) (P : Heap → Prop) (hPl : ∀ H, P H → ∃ md q, va_at g.1 vwCl (a, alO md q n) H) : CT l yJx4a65c_isEmpty_aae02 cJx4a65c_isEmpty_aae02 1 (some .boolean) 0 0 0 0 g F [.ref a] P (fun v H => v = some (.int (b2i (nI n = 0))) ∧ P H) := by
  refine CT.of (by decide) rfl ?_
  intro p e s m args below meth c E hr hk hnm hP ls hl
  have hS : va_S (nF F) s.heap s.heap [] := va_S.rf
  have hx := E.1
  have hb := E.2.1
  have hml := E.2.2.1
  have hown := E.2.2.2.1
  have hts := E.2.2.2.2.1
  have hG := E.2.2.2.2.2
  have hl : lv_has ls 1 [(0, .ref a)] := hl
  obtain ⟨md, q, h1⟩ := hPl _ hP
  refine lv_aload_n hx hb dJx4a65c_isEmpty_aae02_0 rfl (lv_at hl 0 rfl) ?_
  refine al_len E h1 dJx4a65c_isEmpty_aae02_1 ?_
  refine lv_if_ne (tgt := 11) hx hb dJx4a65c_isEmpty_aae02_4 (by decide) (fun c1 => ?_) (fun c1 => ?_)
  · refine lv_iconst (v := 0) hx hb dJx4a65c_isEmpty_aae02_11 (by decide) ?_
    exact ct_zret E hr (by decide) hk hS ⟨by rw [b2i_f c1], hP⟩ dJx4a65c_isEmpty_aae02_12
  · refine lv_iconst (v := 1) hx hb dJx4a65c_isEmpty_aae02_7 (by decide) ?_
    refine lv_goto (tgt := 12) hx hb dJx4a65c_isEmpty_aae02_8 (by decide) ?_
    exact ct_zret E hr (by decide) hk hS ⟨by rw [b2i_t c1], hP⟩ dJx4a65c_isEmpty_aae02_12

set_option maxHeartbeats 4000000 in
set_option maxRecDepth 100000 in
theorem c_J3_check (l : Launch) (g : cG) (F : Nat → Prop) (i n : Nat) (P : Heap → Prop) (hin : i < n) (hn : n < 1000) : CT l yJ3_checkIndex_8e157 cJ3_checkIndex_8e157 3 (some .int) 0 0 0 0 g F [.int (nI i), .int (nI n), .null] P (fun v H => v = some (.int (nI i)) ∧ P H) := by
  refine CT.of (by decide) rfl ?_
  intro p e s m args below meth c E hr hk hnm hP ls hl
  have hS : va_S (nF F) s.heap s.heap [] := va_S.rf
  have hx := E.1
  have hb := E.2.1
  have hml := E.2.2.1
  have hown := E.2.2.2.1
  have hts := E.2.2.2.2.1
  have hG := E.2.2.2.2.2
  have hl : lv_has ls 3 [(0, .int (nI i)), (1, .int (nI n)), (2, .null)] := hl
  refine lv_iload_n hx hb dJ3_checkIndex_8e157_0 rfl (lv_at hl 0 rfl) ?_
  refine lv_if_lt (tgt := 9) hx hb dJ3_checkIndex_8e157_1 (by decide) (fun c1 => absurd c1 (nI_pos (by omega))) (fun c1 => ?_)
  refine lv_iload_n hx hb dJ3_checkIndex_8e157_4 rfl (lv_at hl 0 rfl) ?_
  refine lv_iload_n hx hb dJ3_checkIndex_8e157_5 rfl (lv_at hl 1 rfl) ?_
  refine lv_icmp_lt (tgt := 16) hx hb dJ3_checkIndex_8e157_6 (by decide) (fun c2 => ?_) (fun c2 => absurd (nI_lt hin (by omega)) c2)
  refine lv_iload_n hx hb dJ3_checkIndex_8e157_16 rfl (lv_at hl 0 rfl) ?_
  exact ct_iret E hr hk hS ⟨rfl, hP⟩ dJ3_checkIndex_8e157_17

set_option maxHeartbeats 4000000 in
set_option maxRecDepth 100000 in
theorem c_J15_check (l : Launch) (g : cG) (F : Nat → Prop) (i n : Nat) (P : Heap → Prop) (hin : i < n) (hn : n < 1000) : CT l yJ15_checkIndex_7cf53 cJ15_checkIndex_7cf53 2 (some .int) 1 22 0 0 g F [.int (nI i), .int (nI n)] P (fun v H => v = some (.int (nI i)) ∧ P H) := by
  refine CT.of (by decide) rfl ?_
  intro p e s m args below meth c E hr hk hnm hP ls hl
  have hS : va_S (nF F) s.heap s.heap [] := va_S.rf
  have hx := E.1
  have hb := E.2.1
  have hml := E.2.2.1
  have hown := E.2.2.2.1
  have hts := E.2.2.2.2.1
  have hG := E.2.2.2.2.2
  have hl : lv_has ls 2 [(0, .int (nI i)), (1, .int (nI n))] := hl
  refine lv_iload_n hx hb dJ15_checkIndex_7cf53_0 rfl (lv_at hl 0 rfl) ?_
  refine lv_iload_n hx hb dJ15_checkIndex_7cf53_1 rfl (lv_at hl 1 rfl) ?_
  refine lv_null hx hb dJ15_checkIndex_7cf53_2 ?_
  refine ct_S E hS (c_J3_check l g F i n _ hin hn) ok_J3_checkIndex_8e157 lk_J15_105 hP rfl hl ⟨rfl, rfl⟩ rfl ⟨Nat.le_refl _, Nat.le_refl _⟩ dJ15_checkIndex_7cf53_3 rfl (fun v9 H locs hv9 hS hz9 => ?_)
  obtain ⟨rfl, hP⟩ := hv9
  exact ct_iret E hr hk hS ⟨rfl, hP⟩ dJ15_checkIndex_7cf53_6

set_option maxHeartbeats 4000000 in
set_option maxRecDepth 100000 in
theorem c_AL_elementData (l : Launch) (g : cG) (F : Nat → Prop) (a i y : Nat) (P : Heap → Prop) (hPl : ∀ H, P H → ∃ md q n cap f, va_at g.1 vwCl (a, alO md q n) H ∧ va_at g.1 vwCl (q, alA g cap f) H ∧ i < cap ∧ cap ≤ 200 ∧ f i = some y) : CT l yJx4a65c_elementData_915e3 cJx4a65c_elementData_915e3 2 (some (.object "java/lang/Object")) 0 0 0 0 g F [.ref a, .int (nI i)] P (fun v H => v = some (.ref y) ∧ P H) := by
  refine CT.of (by decide) rfl ?_
  intro p e s m args below meth c E hr hk hnm hP ls hl
  have hS : va_S (nF F) s.heap s.heap [] := va_S.rf
  have hx := E.1
  have hb := E.2.1
  have hml := E.2.2.1
  have hown := E.2.2.2.1
  have hts := E.2.2.2.2.1
  have hG := E.2.2.2.2.2
  have hl : lv_has ls 2 [(0, .ref a), (1, .int (nI i))] := hl
  obtain ⟨md, q, n, cap, f, h1, h2, h3, h4, h5⟩ := hPl _ hP
  refine lv_aload_n hx hb dJx4a65c_elementData_915e3_0 rfl (lv_at hl 0 rfl) ?_
  refine al_arr E h1 dJx4a65c_elementData_915e3_1 ?_
  refine lv_iload_n hx hb dJx4a65c_elementData_915e3_4 rfl (lv_at hl 1 rfl) ?_
  refine va_aldq hx hb hG.1 (va_P1 h2) 0 3 rfl rfl (vp_in_nI h3 (by omega)) dJx4a65c_elementData_915e3_5 ?_
  rw [nI_clamp (by omega), h5]
  exact ct_aret (v := .ref y) E hr (Or.inl ⟨_, rfl⟩) (Or.inr ⟨_, rfl⟩) hk hS ⟨rfl, hP⟩ dJx4a65c_elementData_915e3_6

set_option maxHeartbeats 4000000 in
set_option maxRecDepth 100000 in
theorem c_AL_get (l : Launch) (g : cG) (F : Nat → Prop) (a i y n : Nat) (P : Heap → Prop) (hn : n < 1000) (hin : i < n) (hPl : ∀ H, P H → ∃ md q cap f, va_at g.1 vwCl (a, alO md q n) H ∧ va_at g.1 vwCl (q, alA g cap f) H ∧ i < cap ∧ cap ≤ 200 ∧ f i = some y) : CT l yJx4a65c_get_915e3 cJx4a65c_get_915e3 2 (some (.object "java/lang/Object")) 2 43 0 0 g F [.ref a, .int (nI i)] P (fun v H => v = some (.ref y) ∧ P H) := by
  refine CT.of (by decide) rfl ?_
  intro p e s m args below meth c E hr hk hnm hP ls hl
  have hS : va_S (nF F) s.heap s.heap [] := va_S.rf
  have hx := E.1
  have hb := E.2.1
  have hml := E.2.2.1
  have hown := E.2.2.2.1
  have hts := E.2.2.2.2.1
  have hG := E.2.2.2.2.2
  have hl : lv_has ls 2 [(0, .ref a), (1, .int (nI i))] := hl
  obtain ⟨md, q, cap, f, h1, h2, h3, h4, h5⟩ := hPl _ hP
  refine lv_iload_n hx hb dJx4a65c_get_915e3_0 rfl (lv_at hl 1 rfl) ?_
  refine lv_aload_n hx hb dJx4a65c_get_915e3_1 rfl (lv_at hl 0 rfl) ?_
  refine al_len E h1 dJx4a65c_get_915e3_2 ?_
  refine ct_S E hS (c_J15_check l g F i n _ hin hn) ok_J15_checkIndex_7cf53 lk_Jx4a65c_118 hP rfl hl ⟨rfl, rfl⟩ rfl ⟨Nat.le_refl _, Nat.le_refl _⟩ dJx4a65c_get_915e3_5 rfl (fun v9 H locs hv9 hS hz9 => ?_)
  obtain ⟨rfl, hP⟩ := hv9
  refine lv_pop hx hb dJx4a65c_get_915e3_8 rfl ?_
  refine lv_aload_n hx hb dJx4a65c_get_915e3_9 rfl (lv_at hl 0 rfl) ?_
  refine lv_iload_n hx hb dJx4a65c_get_915e3_10 rfl (lv_at hl 1 rfl) ?_
  refine ct_V E hS (c_AL_elementData l g F a i y P (fun H9 h9 => by obtain ⟨md, q, cap, f, k⟩ := hPl H9 h9; exact ⟨md, q, n, cap, f, k⟩)) ok_Jx4a65c_elementData_915e3 lk_Jx4a65c_123 hP (by obtain ⟨md, q, cap, f, k1, k⟩ := hPl _ hP; exact va_recv (q := (RJx4a65c, TJx4a65c, 3)) (q0 := 0) (ci := 2) hG.1 (va_P1 k1) rfl rfl) rfl hl ⟨rfl, rfl⟩ rfl ⟨Nat.le_refl _, Nat.le_refl _⟩ dJx4a65c_get_915e3_11 rfl (fun v9 H locs hv9 hS hz9 => ?_)
  obtain ⟨rfl, hP⟩ := hv9
  exact ct_aret (v := .ref y) E hr (Or.inl ⟨_, rfl⟩) (Or.inr ⟨_, rfl⟩) hk hS ⟨rfl, hP⟩ dJx4a65c_get_915e3_14
end
section
set_option maxRecDepth 100000 in
theorem nt_getC : Cond.native ⟨"java/lang/Object", "getClass", "()Ljava/lang/Class;"⟩ ∈ lw_g := lw_gi 355 rfl rfl
set_option maxRecDepth 100000 in
theorem nt_copy : Cond.native arraycopyName ∈ lw_g := lw_gi 367 rfl rfl
set_option maxRecDepth 100000 in
theorem sl_getC : Cond.selects "[Ljava/lang/Object;" ⟨"java/lang/Object", "getClass", "()Ljava/lang/Class;"⟩ ⟨"java/lang/Object", "getClass", "()Ljava/lang/Class;"⟩ ∈ lw_g := lw_gi 1187 rfl rfl
set_option maxRecDepth 100000 in
theorem st_copy : Cond.static arraycopyName ∈ lw_g := lw_gi 366 rfl rfl
set_option maxRecDepth 100000 in
theorem im_getC : Cond.instanceMethod ⟨"java/lang/Object", "getClass", "()Ljava/lang/Class;"⟩ ∈ lw_g := lw_gi 339 rfl rfl
set_option maxRecDepth 100000 in
theorem lk_J7_150 : Cond.methodLink RJ7 150 arraycopyName ∈ lw_g := lw_gi 365 rfl rfl
set_option maxRecDepth 100000 in
theorem lk_Jx4a65c_112 : Cond.methodLink RJx4a65c 112 arraycopyName ∈ lw_g := lw_gi 765 rfl rfl
set_option maxRecDepth 100000 in
theorem lk_J7_86 : Cond.methodLink RJ7 86 ⟨"java/lang/Object", "getClass", "()Ljava/lang/Class;"⟩ ∈ lw_g := lw_gi 338 rfl rfl

set_option maxRecDepth 100000 in
theorem wc_J8_200 : Cond.constant RJ8 200 2147483639 ∈ lw_g := lw_gi 331 rfl rfl
def nwl (n : Nat) : Nat := n + (if 1 < n / 2 then n / 2 else 1)
theorem nwl_le {n : Nat} (h : n ≤ 100) (h0 : 0 < n) : n < nwl n ∧ nwl n ≤ 150 := by
  unfold nwl
  split <;> omega
section CRS
variable {p : Program} {l : Launch} {e : Env} {R : Room} {s : State} {m : MethodId} {args : Array Value} {below : List Frame} {meth : Method} {c : Code} {H : Heap} {locs : List Loc} {cells slots : Nat} {Q : State → Prop}
variable {cc : ByteArray} {pc nL : Nat} {ls : Array Slot} {rest : List Value} {own : String} {g : cG} {F F1 : Nat → Prop} {H0 : Heap} {post : Option Value → Heap → Prop} {mc ms : Nat}
variable {y : MethodName} {b : ByteArray} {n k fr lo mc1 ms1 idx o : Nat} {ret : Option FieldType} {As : List Value} {P : Heap → Prop}
theorem ct_SF (hF : ∀ q, F q → F1 q) (E : EN p s m c cc nL args own g F) (hS : va_S (nF F) s.heap H locs) (hM : CT l y b n ret fr lo mc1 ms1 g F1 As P post) (ok : okS y b n ret k) (hlk : Cond.methodLink own idx y ∈ lw_g) (hP : P H)
    (hlen : As.length = k) {lv : List (Nat × Value)} (hls : lv_has ls nL lv) (hR : Nat.ble (fr + 1) R.frames = true ∧ Nat.ble (8 + (n + 11) + lo) R.locals = true) (hst : Nat.ble (rest.map fun v => v.category).sum 8 = true)
    (hf : cells + mc1 ≤ R.cells ∧ slots + ms1 ≤ R.slots) (hd : decode cc pc = .ok (.invokestatic idx, 3))
    {st0 : List Value} (hst0 : st0 = As.reverse ++ rest)
    (kk : ∀ (v : Option Value) (H1 : Heap) (locs1 : List Loc), post v H1 → va_S (nF F) s.heap H1 locs1 → H.size ≤ H1.size → (∀ q, q < H.size → F1 q → H1[q]? = H[q]?) → W p l e R s m args below meth c H1 locs1 (cells + mc1) (slots + ms1) Q (F0 m (pc + 3) ls (v.toList ++ rest))) : W p l e R s m args below meth c H locs cells slots Q (F0 m pc ls st0) := by
  obtain ⟨hx, hb, hml, hown, hts, hG⟩ := E
  obtain ⟨⟨k1, k2, k3, k4, k5⟩, k6⟩ := ok
  refine ct_goF hF (va_runS (As := As) (rest := rest) (Ts := lw_g) (own := own) (nL := nL) ⟨hx, hb, hml, hown, hts⟩ hM
    (va_cwS k hts (by
      intro w hw
      unfold va_wsS at hw
      rcases List.mem_append.mp hw with h | h
      · simp only [List.mem_cons, List.not_mem_nil, or_false] at h
        rcases h with rfl | rfl | rfl
        · exact lw_go hlk
        · exact lw_go k6
        · exact lw_go k1
      · exact ms_gi k2 w h) rfl rfl rfl ⟨k3, k4, k5⟩ ⟨Nat.le_of_ble_eq_true hR.1, Nat.le_of_ble_eq_true hR.2⟩)
    (ct_preF (P := P) hF hG hS hP As) rfl hlen hls.1 hst0 (lv_room (Nat.le_of_ble_eq_true hst)) hd hf) hS kk
end CRS

set_option maxHeartbeats 4000000 in
set_option maxRecDepth 100000 in
theorem c_J8_newLength (l : Launch) (g : cG) (F : Nat → Prop) (n : Nat) (P : Heap → Prop) (h0 : 0 < n) (hn : n ≤ 100) : CT l yJ8_newLength_cabcc cJ8_newLength_cabcc 4 (some .int) 1 21 0 0 g F [.int (nI n), .int (nI 1), .int (nI (n / 2))] P (fun v H => v = some (.int (nI (nwl n))) ∧ P H) := by
  refine CT.of (by decide) rfl ?_
  intro p e s m args below meth c E hr hk hnm hP ls hl
  have hS : va_S (nF F) s.heap s.heap [] := va_S.rf
  have hx := E.1
  have hb := E.2.1
  have hml := E.2.2.1
  have hown := E.2.2.2.1
  have hts := E.2.2.2.2.1
  have hG := E.2.2.2.2.2
  have hl : lv_has ls 4 [(0, .int (nI n)), (1, .int (nI 1)), (2, .int (nI (n / 2)))] := hl
  have hw := nwl_le hn h0
  refine lv_iload_n hx hb dJ8_newLength_cabcc_0 rfl (lv_at hl 0 rfl) ?_
  refine lv_iload_n hx hb dJ8_newLength_cabcc_1 rfl (lv_at hl 1 rfl) ?_
  refine lv_iload_n hx hb dJ8_newLength_cabcc_2 rfl (lv_at hl 2 rfl) ?_
  refine va_mmax hx hb (hml.trans hl.1.symm) hown (hts _ lk_J8_194) (hts _ st_max) (hts _ in_J9) (hts _ cd_max) (by decide) (Nat.le_of_ble_eq_true rfl) (by decide) (by decide) dJ8_newLength_cabcc_3 ?_
  refine lv_iadd hx hb dJ8_newLength_cabcc_6 ?_
  have e1 : nI n + (if nI 1 < nI (n / 2) then nI (n / 2) else nI 1) = nI (nwl n) := by
    unfold nwl
    by_cases c : 1 < n / 2
    · rw [if_pos c, if_pos (nI_lt c (by omega)), nI_add]
    · rw [if_neg c, if_neg (nI_nlt (by omega) (by omega)), nI_add]
  refine W.eq (g2 := F0 m 7 ls [.int (nI (nwl n))]) (by rw [← e1]) ?_
  refine lv_istore_n (lv' := [(3, .int (nI (nwl n))), (0, .int (nI n)), (1, .int (nI 1)), (2, .int (nI (n / 2)))]) hx hb dJ8_newLength_cabcc_7 rfl hl (by decide) rfl (fun ls hl => ?_)
  refine lv_iconst (v := 0) hx hb dJ8_newLength_cabcc_8 (by decide) ?_
  refine lv_iload_n hx hb dJ8_newLength_cabcc_9 rfl (lv_at hl 0 rfl) ?_
  refine lv_icmp_ge (tgt := 21) hx hb dJ8_newLength_cabcc_10 (by decide) (fun c1 => absurd c1 (nI_nle (by omega) (by omega))) (fun c1 => ?_)
  refine lv_iload_n hx hb dJ8_newLength_cabcc_13 rfl (lv_at hl 0 rfl) ?_
  refine lv_ldc hx hb hown (hts _ wc_J8_200) dJ8_newLength_cabcc_14 ?_
  refine lv_icmp_gt (tgt := 21) hx hb dJ8_newLength_cabcc_16 (by decide) (fun c1 => absurd (show nI 2147483639 < nI (nwl n) from c1) (nI_nlt (by omega) (by omega))) (fun c1 => ?_)
  refine lv_iload_n hx hb dJ8_newLength_cabcc_19 rfl (lv_at hl 0 rfl) ?_
  exact ct_iret E hr hk hS ⟨rfl, hP⟩ dJ8_newLength_cabcc_20

set_option maxHeartbeats 4000000 in
set_option maxRecDepth 100000 in
theorem c_J7_copyOf3 (l : Launch) (g : cG) (F : Nat → Prop) (q n N sz : Nat) (f : Nat → Option Nat) (hF : ∀ x, F x ↔ x < sz ∧ x ≠ q) (hn : n ≤ N) (hN : N ≤ 150) : CT l yJ7_copyOf_6403c cJ7_copyOf_6403c 4 (some (.array (.object "java/lang/Object"))) 1 60 1 150 g F [.ref q, .int (nI N), .ref g.2.2.2.1] (fun H => H.size = sz ∧ va_at g.1 vwCl (q, alA g n f) H ∧ ∀ i, i < n → ∀ y, f i = some y → AO g y H ∧ y ≠ q) (fun v H => ∃ q1 : Nat, v = some (.ref q1) ∧ sz ≤ q1 ∧ va_at g.1 vwCl (q1, alA g N (va_cpy f (fun _ => none) 0 0 n)) H) := by
  refine CT.of (by decide) rfl ?_
  intro p e s m args below meth c E hr hk hnm hP ls hl
  have hS : va_S (nF F) s.heap s.heap [] := va_S.rf
  have hx := E.1
  have hb := E.2.1
  have hml := E.2.2.1
  have hown := E.2.2.2.1
  have hts := E.2.2.2.2.1
  have hG := E.2.2.2.2.2
  have hl : lv_has ls 4 [(0, .ref q), (1, .int (nI N)), (2, .ref g.2.2.2.1)] := hl
  obtain ⟨hsz, h1, h2⟩ := hP
  have hMi := hG.2.2.2.2.2.2.2.1
  have hAO := hG.2.2.2.2.2.2.2.2.2.1
  have hFq : ¬ F q := fun z => ((hF q).mp z).2 rfl
  refine lv_aload_n hx hb dJ7_copyOf_6403c_0 rfl (lv_at hl 2 rfl) ?_
  refine va_ldcM hx hb hown (hts _ kl_J7_110) hMi dJ7_copyOf_6403c_1 ?_
  refine lv_acmp_ne (rx := some g.2.2.2.1) (ry := some g.2.2.2.1) (tgt := 13) hx hb dJ7_copyOf_6403c_3 (by decide) (fun c1 => absurd rfl c1) (fun c1 => ?_)
  refine lv_iload_n hx hb dJ7_copyOf_6403c_6 rfl (lv_at hl 1 rfl) ?_
  have hD0 : va_D (nF F) [(q, alA g n f)] := ⟨fun i j x y hi hj _ => by
    have a1 := (List.getElem?_eq_some_iff.mp hi).1
    have a2 := (List.getElem?_eq_some_iff.mp hj).1
    simp at a1 a2; omega, fun k x hx9 => by
    have a1 := (List.getElem?_eq_some_iff.mp hx9).1
    simp at a1; subst a1; cases hx9; exact hFq⟩
  have hAn : ∀ x, s.heap.size ≤ x → nF F x := fun x h z => by rw [hF] at z; omega
  refine va_newq (N' := N) hx hb hown (hts _ kl_J7_2) hAO hG.1 (va_P1 h1) hD0 hS hAn (nI_pos (by omega)) (nI_clamp (by omega)) (by omega) (Nat.le_refl _) (by show 0 + N ≤ 150; omega) dJ7_copyOf_6403c_7 (fun q1 cA H1 hK1 hP1 hD1 hS1 => ?_)
  have hcA : cA = g.2.1 3 := by
    have a1 := va_nmO (hK1.2 6 (cA, .object "java/lang/Object") rfl).2 (nm := "[Ljava/lang/Object;") (by decide +kernel)
    have a2 := va_nmO (hG.1.2 3 _ rfl).2 (nm := "[Ljava/lang/Object;") (by decide +kernel)
    exact Option.some.inj (a1.symm.trans a2)
  subst hcA
  have hqq : q1 ≠ q := fun z => by
    have := hD1.1 0 1 _ _ rfl rfl z.symm
    cases this
  have hq1 : sz ≤ q1 := by
    have := hD1.2 1 _ rfl
    rw [nF, hF] at this
    rcases Nat.lt_or_ge q1 sz with h | h
    · exact absurd ⟨h, hqq⟩ this
    · exact h
  have k2 : ∀ i, i < n → ∀ y, f i = some y → AO g y H1 := fun i hi y hy => (h2 i hi y hy).1.kept (hS1.2.1 y (h2 i hi y hy).1.lt (fun z => z ((hF y).mpr ⟨hsz ▸ (h2 i hi y hy).1.lt, (h2 i hi y hy).2⟩)))
  have hP1 : va_P g.1 vwCl [(q, alA g n f), (q1, alA g N (fun _ => none))] H1 := hP1
  have hD1 : va_D (nF F) [(q, alA g n f), (q1, alA g N (fun _ => none))] := hD1
  refine lv_goto (tgt := 24) hx hb dJ7_copyOf_6403c_10 (by decide) ?_
  refine lv_astore_n (lv' := [(3, .ref q1), (0, .ref q), (1, .int (nI N)), (2, .ref g.2.2.2.1)]) hx hb dJ7_copyOf_6403c_24 rfl hl (by decide) rfl (fun ls hl => ?_)
  refine lv_aload_n hx hb dJ7_copyOf_6403c_25 rfl (lv_at hl 1 rfl) ?_
  refine lv_iconst (v := 0) hx hb dJ7_copyOf_6403c_26 (by decide) ?_
  refine lv_aload_n hx hb dJ7_copyOf_6403c_27 rfl (lv_at hl 0 rfl) ?_
  refine lv_iconst (v := 0) hx hb dJ7_copyOf_6403c_28 (by decide) ?_
  refine lv_aload_n hx hb dJ7_copyOf_6403c_29 rfl (lv_at hl 1 rfl) ?_
  refine va_alen (ty := .object "java/lang/Object") hx hb hG.1 hP1 0 rfl (t0 := 3) rfl rfl dJ7_copyOf_6403c_30 ?_
  refine lv_iload_n hx hb dJ7_copyOf_6403c_31 rfl (lv_at hl 2 rfl) ?_
  refine va_mmin hx hb (hml.trans hl.1.symm) hown (hts _ lk_J7_304) (hts _ st_min) (hts _ in_J9) (hts _ cd_min) (Nat.le_of_ble_eq_true rfl) (Nat.le_of_ble_eq_true rfl) (Nat.le_refl _) (by show 0 + N ≤ 150; omega) dJ7_copyOf_6403c_32 ?_
  rw [show (if nI N < Int32.ofNat n then nI N else Int32.ofNat n) = nI n from if_neg (nI_nlt hn (by omega))]
  have c0 : (0 : Int32).toNatClampNeg = 0 := rfl
  have cn : (nI n).toNatClampNeg = n := nI_clamp (by omega)
  refine va_copyM (E0 := "java/lang/Object") (E1 := "java/lang/Object") hx hb (hml.trans hl.1.symm) hown (hts _ lk_J7_150) (hts _ nt_copy) (hts _ st_copy) (hts _ in_J10) hG.1 hP1 hD1 hS1 0 1 3 3 rfl rfl rfl rfl (by decide) (by decide) (nI_pos (by omega)) (by rw [c0, cn]; omega) (by rw [c0, cn]; omega) (fun i hi y hy => by
    rw [cn] at hi
    rw [c0, Nat.zero_add] at hy
    exact (k2 i hi y hy).any hG) (Nat.le_of_ble_eq_true rfl) (Nat.le_of_ble_eq_true rfl) dJ7_copyOf_6403c_35 (fun H2 locs2 hP2 hD2 hS2 => ?_)
  rw [c0, cn] at hP2
  refine lv_aload_n hx hb dJ7_copyOf_6403c_38 rfl (lv_at hl 0 rfl) ?_
  exact ct_aret (v := .ref q1) E hr (Or.inr ⟨_, rfl⟩) (Or.inr ⟨_, rfl⟩) hk hS2 ⟨q1, rfl, hq1, hP2 1 _ rfl⟩ dJ7_copyOf_6403c_39 (Nat.le_refl _) (by show 0 + N ≤ 150; omega)

set_option maxHeartbeats 4000000 in
set_option maxRecDepth 100000 in
theorem c_J7_copyOf2 (l : Launch) (g : cG) (F : Nat → Prop) (q n N sz : Nat) (f : Nat → Option Nat) (hF : ∀ x, F x ↔ x < sz ∧ x ≠ q) (hn : n ≤ N) (hN : N ≤ 150) : CT l yJ7_copyOf_1904c cJ7_copyOf_1904c 2 (some (.array (.object "java/lang/Object"))) 2 83 1 150 g F [.ref q, .int (nI N)] (fun H => H.size = sz ∧ va_at g.1 vwCl (q, alA g n f) H ∧ ∀ i, i < n → ∀ y, f i = some y → AO g y H ∧ y ≠ q) (fun v H => ∃ q1 : Nat, v = some (.ref q1) ∧ sz ≤ q1 ∧ va_at g.1 vwCl (q1, alA g N (va_cpy f (fun _ => none) 0 0 n)) H) := by
  refine CT.of (by decide) rfl ?_
  intro p e s m args below meth c E hr hk hnm hP ls hl
  have hS : va_S (nF F) s.heap s.heap [] := va_S.rf
  have hx := E.1
  have hb := E.2.1
  have hml := E.2.2.1
  have hown := E.2.2.2.1
  have hts := E.2.2.2.2.1
  have hG := E.2.2.2.2.2
  have hl : lv_has ls 2 [(0, .ref q), (1, .int (nI N))] := hl
  have h1 := hP.2.1
  have hMi := hG.2.2.2.2.2.2.2.1
  have hDc := hG.2.2.2.2.2.2.2.2.1
  refine lv_aload_n hx hb dJ7_copyOf_1904c_0 rfl (lv_at hl 0 rfl) ?_
  refine lv_iload_n hx hb dJ7_copyOf_1904c_1 rfl (lv_at hl 1 rfl) ?_
  refine lv_aload_n hx hb dJ7_copyOf_1904c_2 rfl (lv_at hl 0 rfl) ?_
  refine va_getC hx hb (hml.trans hl.1.symm) hown (hts _ lk_J7_86) (va_Dc.use hDc) (hts _ sl_getC) (hts _ im_getC) (hts _ nt_getC) hMi ⟨_, h1, rfl, va_nmO (hG.1.2 3 _ rfl).2 (by decide +kernel)⟩ (Nat.le_of_ble_eq_true rfl) (Nat.le_of_ble_eq_true rfl) dJ7_copyOf_1904c_3 ?_
  refine ct_S E hS (c_J7_copyOf3 l g F q n N sz f hF hn hN) ok_J7_copyOf_6403c lk_J7_300 hP rfl hl ⟨rfl, rfl⟩ rfl ⟨Nat.le_refl _, Nat.le_refl _⟩ dJ7_copyOf_1904c_6 rfl (fun v9 H locs hv9 hS hz9 => ?_)
  obtain ⟨q1, rfl, hv9⟩ := hv9
  exact ct_aret (v := .ref q1) E hr (Or.inr ⟨_, rfl⟩) (Or.inr ⟨_, rfl⟩) hk hS ⟨q1, rfl, hv9⟩ dJ7_copyOf_1904c_9 (Nat.le_refl _) (Nat.le_refl _)
end
section
set_option maxRecDepth 100000 in
theorem sf_mod : Cond.sameField RJx4a65c "java/util/AbstractList" "modCount" "I" ∈ lw_g := lw_gi 111 rfl rfl
section ALM
variable {p : Program} {l : Launch} {e : Env} {R : Room} {s : State} {m : MethodId} {args : Array Value} {below : List Frame} {meth : Method} {c : Code} {H : Heap} {locs : List Loc} {cells slots : Nat} {Q : State → Prop}
variable {cc : ByteArray} {pc nL : Nat} {ls : Array Slot} {rest : List Value} {own : String} {g : cG} {F : Nat → Prop} {H0 : Heap} {a q n : Nat} {md : Int32}
theorem w_putS (E : EN p s m c cc nL args own g F) {C ref : String} {T : u_T} {N ci index : Nat} (hin : ∀ w ∈ u_ws C T N, w ∈ lw_g) (ty0 : Nat → FieldType) (hty : ∀ k, k < N → parseFieldDescriptor (T k).2.2.1 = some (ty0 k)) (hnm : ∀ a, a < N → ∀ b, b < N → a ≠ b → (T a).2.1 ≠ (T b).2.1) (hS0 : va_S (nF F) H0 H locs) {fs : List Value} (he : va_at g.1 vwCl (a, .inr (ci, fs)) H) (ha : ¬ F a) (hc : vwCl[ci]? = some (C, T, N)) (k : Nat) (hk : k < N) (hsame : ∀ x, s.fieldFound? (T k).1 (T k).2.1 (T k).2.2.1 = some x → s.fieldFound? ref (T k).2.1 (T k).2.2.1 = some x) (hlink : Cond.fieldLink own index ref (T k).2.1 (T k).2.2.1 ∈ lw_g) (hfin : (T k).2.2.2 = false) {v : Value} (hn : narrow (ty0 k) v = v) (hfit : fits (ty0 k) v = true) (hl : k < fs.length)
    (hdg : decode cc pc = .ok (.putfield index, 3)) (kk : ∀ (H1 : Heap) (locs1 : List Loc), va_at g.1 vwCl (a, .inr (ci, fs.set k v)) H1 → H1.size = H.size → (∀ q, q ≠ a → H1[q]? = H[q]?) → va_S (nF F) H0 H1 locs1 → W p l e R s m args below meth c H1 locs1 cells slots Q (F0 m (pc + 3) ls rest)) : W p l e R s m args below meth c H locs cells slots Q (F0 m pc ls (v :: .ref a :: rest)) := by
  obtain ⟨hexec, hb, -, hown, hts, hK, -⟩ := E
  have hap := va_apart (own := own) hts hin ty0 hty hnm hK hc
  obtain ⟨r, h1, cell, q1, q2, q3, q4⟩ := he
  have hr : r = (C, T, N) := Option.some.inj (h1.symm.trans hc)
  subst hr
  obtain ⟨hS, hfc, kC, hkC, hkind⟩ := hK.1 ci _ hc
  obtain ⟨cf, kf, fi, f, hi, hsl⟩ := hS k hk
  have hlay := hts _ (hin _ (u_in_lay hk))
  unfold u_lay at hlay
  rw [if_neg (by rw [hfin]; decide)] at hlay
  have hst := (u_facts hfc hkC (u_lays hts hin hk) hi).1
  have h6 := u_store hfc hkC hkind hlay hi (hty k hk) hn hfit
  refine W.putK hexec hb (f := f) ⟨hown, hts _ hlink, ⟨_, _, _, hsame _ hi⟩, hst⟩ (by rw [q2]; exact h6) q1 q3 (by rw [hsl]; exact k2_hasslot (q4 k hk)) rfl rfl hdg fun H' e1 e2 e3 => ?_
  rw [hsl] at e1 ⊢
  exact kk H' _ ⟨_, hc, t_OB.to (V := updV (vp_V fs) k v) ⟨_, e1, q2, q3, t_set q4 hap hk v⟩ (fun j _ => vp_updV_set hl v j)⟩ e2 e3 (hS0.put e2 e3 ha)
theorem al_mget (E : EN p s m c cc nL args RJx4a65c g F) (h : va_at g.1 vwCl (a, alO md q n) H) (hd : decode cc pc = .ok (.getfield 63, 3))
    (kk : W p l e R s m args below meth c H locs cells slots Q (F0 m (pc + 3) ls (.int md :: rest))) : W p l e R s m args below meth c H locs cells slots Q (F0 m pc ls (.ref a :: rest)) :=
  va_get (ref := RJx4a65c) (C := RJx4a65c) (T := TJx4a65c) (N := 3) (ci := 2) E.1 E.2.1 E.2.2.2.2.1 ly_Jx4a65c E.2.2.2.1 E.2.2.2.2.2.1 (va_P1 h) 0 rfl rfl 0 (by decide) (E.2.2.2.2.1 _ fk_Jx4a65c_63) (u_same (E.2.2.2.2.1 _ sf_mod)) rfl hd kk
theorem al_mput (E : EN p s m c cc nL args RJx4a65c g F) (hS : va_S (nF F) H0 H locs) (h : va_at g.1 vwCl (a, alO md q n) H) (ha : ¬ F a) {v : Int32} (hd : decode cc pc = .ok (.putfield 63, 3))
    (kk : ∀ (H1 : Heap) (locs1 : List Loc), va_at g.1 vwCl (a, alO v q n) H1 → H1.size = H.size → (∀ q, q ≠ a → H1[q]? = H[q]?) → va_S (nF F) H0 H1 locs1 → W p l e R s m args below meth c H1 locs1 cells slots Q (F0 m (pc + 3) ls rest)) : W p l e R s m args below meth c H locs cells slots Q (F0 m pc ls (.int v :: .ref a :: rest)) :=
  w_putS E (C := RJx4a65c) (T := TJx4a65c) (N := 3) (ci := 2) ly_Jx4a65c tyJx4a65c tyJx4a65c_ok nmJx4a65c hS h ha rfl 0 (by decide) (u_same (E.2.2.2.2.1 _ sf_mod)) fk_Jx4a65c_63 rfl rfl rfl (by decide : 0 < 3) hd kk
theorem al_qput (E : EN p s m c cc nL args RJx4a65c g F) (hS : va_S (nF F) H0 H locs) (h : va_at g.1 vwCl (a, alO md q n) H) (ha : ¬ F a) {v : Nat} (hd : decode cc pc = .ok (.putfield 9, 3))
    (kk : ∀ (H1 : Heap) (locs1 : List Loc), va_at g.1 vwCl (a, alO md v n) H1 → H1.size = H.size → (∀ q, q ≠ a → H1[q]? = H[q]?) → va_S (nF F) H0 H1 locs1 → W p l e R s m args below meth c H1 locs1 cells slots Q (F0 m (pc + 3) ls rest)) : W p l e R s m args below meth c H locs cells slots Q (F0 m pc ls (.ref v :: .ref a :: rest)) :=
  w_put E (C := RJx4a65c) (T := TJx4a65c) (N := 3) (ci := 2) ly_Jx4a65c tyJx4a65c tyJx4a65c_ok nmJx4a65c hS h ha rfl 1 (by decide) rfl fk_Jx4a65c_9 rfl rfl rfl (by decide : 1 < 3) hd kk
theorem al_nput (E : EN p s m c cc nL args RJx4a65c g F) (hS : va_S (nF F) H0 H locs) (h : va_at g.1 vwCl (a, alO md q n) H) (ha : ¬ F a) {v : Nat} (hd : decode cc pc = .ok (.putfield 48, 3))
    (kk : ∀ (H1 : Heap) (locs1 : List Loc), va_at g.1 vwCl (a, alO md q v) H1 → H1.size = H.size → (∀ q, q ≠ a → H1[q]? = H[q]?) → va_S (nF F) H0 H1 locs1 → W p l e R s m args below meth c H1 locs1 cells slots Q (F0 m (pc + 3) ls rest)) : W p l e R s m args below meth c H locs cells slots Q (F0 m pc ls (.int (nI v) :: .ref a :: rest)) :=
  w_put E (C := RJx4a65c) (T := TJx4a65c) (N := 3) (ci := 2) ly_Jx4a65c tyJx4a65c tyJx4a65c_ok nmJx4a65c hS h ha rfl 2 (by decide) rfl fk_Jx4a65c_48 rfl rfl rfl (by decide : 2 < 3) hd kk
theorem w_newq (E : EN p s m c cc nL args own g F) {index : Nat} (hclink : Cond.classLink own index "java/lang/Object" ∈ lw_g) (hS : va_S (nF F) H0 H locs) {n : Int32} {N' : Nat} (hn : ¬ n < 0) (hN : n.toNatClampNeg = N') (hbytes : N' * 4 ≤ 536870912) (hcells : cells + 1 ≤ R.cells) (hslots : slots + N' ≤ R.slots) (hdg : decode cc pc = .ok (.anewarray index, 3))
    (kk : ∀ (H1 : Heap), va_at g.1 vwCl (H.size, alA g N' (fun _ => none)) H1 → H1.size = H.size + 1 → (∀ q, q < H.size → H1[q]? = H[q]?) → va_S (nF F) H0 H1 locs →
      W p l e R s m args below meth c H1 locs (cells + 1) (slots + N') Q (F0 m (pc + 3) ls (.ref H.size :: rest))) : W p l e R s m args below meth c H locs cells slots Q (F0 m pc ls (.int n :: rest)) := by
  subst hN
  have hG := E.2.2.2.2.2
  refine W.anew E.1 E.2.1 E.2.2.2.1 (E.2.2.2.2.1 _ hclink) (va_AO.use hG.2.2.2.2.2.2.2.2.2.1) rfl hdg rfl hn hbytes hcells hslots fun cA kA comp f1 f2 f3 f4 => ?_
  generalize hH1 : H.push ({ cls := cA, slots := Array.replicate n.toNatClampNeg .null, vm := .none } : Cell) = H1
  have z1 : H1.size = H.size + 1 := by rw [← hH1, Array.size_push]
  have e1 : H1[H.size]? = some (arrV cA n.toNatClampNeg (fun _ => .null)) := by rw [← hH1, Array.getElem?_push_size, ← arrV_new]
  have o1 : ∀ q : Nat, q < H.size → H1[q]? = H[q]? := fun q hq => by rw [← hH1, Array.getElem?_push, if_neg (Nat.ne_of_lt hq)]
  have hcA : cA = g.2.1 3 := by
    have a2 := va_nmO (hG.1.2 3 _ rfl).2 (nm := "[" ++ (FieldType.object "java/lang/Object").toString) rfl
    exact Option.some.inj (f1.symm.trans a2)
  subst hcA
  refine kk H1 ?_ z1 o1 ⟨Nat.le_trans hS.1 (by omega), fun x h1 h2 => (o1 x (Nat.lt_of_lt_of_le h1 hS.1)).trans (hS.2.1 x h1 h2), hS.2.2⟩
  show H1[H.size]? = some (vp_cell _ _)
  rw [vp_cell_q]
  exact e1
theorem w_new {C : String} {T : u_T} {N ci index : Nat} (E : EN p s m c cc nL args own g F) (hin : ∀ w ∈ u_ws C T N, w ∈ lw_g) (ty : Nat → FieldType) (hty : ∀ k, k < N → parseFieldDescriptor (T k).2.2.1 = some (ty k)) (hcl : Cond.classLink own index C ∈ lw_g) (hinst : Cond.instantiable C N ∈ lw_g) (hini : Cond.initialized C ∈ lw_g) (hc : vwCl[ci]? = some (C, T, N)) (hS : va_S (nF F) H0 H locs) {fs : List Value} (hfs : ∀ j, j < N → defaultValue (ty j) = vp_V fs j) (hcells : cells + 1 ≤ R.cells) (hslots : slots + N ≤ R.slots) (hdg : decode cc pc = .ok (.new index, 3))
    (kk : ∀ (H1 : Heap), va_at g.1 vwCl (H.size, .inr (ci, fs)) H1 → H1.size = H.size + 1 → (∀ q, q < H.size → H1[q]? = H[q]?) → va_S (nF F) H0 H1 locs →
      W p l e R s m args below meth c H1 locs (cells + 1) (slots + N) Q (F0 m (pc + 3) ls (.ref H.size :: rest))) : W p l e R s m args below meth c H locs cells slots Q (F0 m pc ls rest) := by
  have hts := E.2.2.2.2.1
  have hKn := E.2.2.2.2.2.1.1 ci _ hc
  refine W.newcK E.1 E.2.1 E.2.2.2.1 (hts _ hcl) (hts _ hinst) (hts _ hini) rfl hdg hcells hslots hKn.2.1 rfl fun H1 kC hkC e1 z1 o1 => ?_
  exact kk H1 ⟨_, hc, (u_born ty hts hin hKn hkC e1 hty).to hfs⟩ z1 o1 ⟨Nat.le_trans hS.1 (by omega), fun x h1 h2 => (o1 x (Nat.lt_of_lt_of_le h1 hS.1)).trans (hS.2.1 x h1 h2), hS.2.2⟩
end ALM
theorem va_D1 {A : Nat → Prop} {x : Nat} {e : va_E} (h : A x) : va_D A [(x, e)] := ⟨fun i j x y hi hj _ => by
    have a1 := (List.getElem?_eq_some_iff.mp hi).1
    have a2 := (List.getElem?_eq_some_iff.mp hj).1
    simp at a1 a2; omega, fun k x hx9 => by
    have a1 := (List.getElem?_eq_some_iff.mp hx9).1
    simp at a1; subst a1; cases hx9; exact h⟩
set_option maxHeartbeats 4000000 in
set_option maxRecDepth 100000 in
theorem c_AL_growA (l : Launch) (g : cG) (F : Nat → Prop) (a q n sz : Nat) (md : Int32) (f : Nat → Option Nat) (hF : ∀ x, F x → x < sz) (ha : ¬ F a) (hq : ¬ F q) (haq : a ≠ q) (h0 : 0 < n) (hn : n ≤ 100) : CT l yJx4a65c_grow_92f84 cJx4a65c_grow_92f84 4 (some (.array (.object "java/lang/Object"))) 3 105 1 150 g F [.ref a, .int (nI (n + 1))] (fun H => H.size = sz ∧ va_at g.1 vwCl (a, alO md q n) H ∧ va_at g.1 vwCl (q, alA g n f) H ∧ ∀ i, i < n → ∀ y, f i = some y → AO g y H ∧ y ≠ q) (fun v H => ∃ q1 : Nat, v = some (.ref q1) ∧ sz ≤ q1 ∧ va_at g.1 vwCl (a, alO md q1 n) H ∧ va_at g.1 vwCl (q1, alA g (nwl n) (va_cpy f (fun _ => none) 0 0 n)) H) := by
  refine CT.of (by decide) rfl ?_
  intro p e s m args below meth c E hr hk hnm hP ls hl
  have hS : va_S (nF F) s.heap s.heap [] := va_S.rf
  have hx := E.1
  have hb := E.2.1
  have hml := E.2.2.1
  have hown := E.2.2.2.1
  have hts := E.2.2.2.2.1
  have hG := E.2.2.2.2.2
  have hl : lv_has ls 4 [(0, .ref a), (1, .int (nI (n + 1)))] := hl
  have hP0 := hP
  obtain ⟨hsz, h1, h2, h3⟩ := hP
  have hw := nwl_le hn h0
  refine lv_aload_n hx hb dJx4a65c_grow_92f84_0 rfl (lv_at hl 0 rfl) ?_
  refine al_arr E h1 dJx4a65c_grow_92f84_1 ?_
  refine va_alen (ty := .object "java/lang/Object") hx hb hG.1 (va_P1 h2) 0 rfl (t0 := 3) (v := nI n) rfl rfl dJx4a65c_grow_92f84_4 ?_
  refine lv_istore_n (lv' := [(2, .int (nI n)), (0, .ref a), (1, .int (nI (n + 1)))]) hx hb dJx4a65c_grow_92f84_5 rfl hl (by decide) rfl (fun ls hl => ?_)
  refine lv_iload_n hx hb dJx4a65c_grow_92f84_6 rfl (lv_at hl 0 rfl) ?_
  refine lv_if_gt (tgt := 20) hx hb dJx4a65c_grow_92f84_7 (by decide) (fun c1 => ?_) (fun c1 => absurd (show nI 0 < nI n from nI_lt h0 (by omega)) c1)
  refine lv_iload_n hx hb dJx4a65c_grow_92f84_20 rfl (lv_at hl 0 rfl) ?_
  refine lv_iload_n hx hb dJx4a65c_grow_92f84_21 rfl (lv_at hl 2 rfl) ?_
  refine lv_iload_n hx hb dJx4a65c_grow_92f84_22 rfl (lv_at hl 0 rfl) ?_
  refine lv_isub hx hb dJx4a65c_grow_92f84_23 ?_
  refine W.eq (g2 := F0 m 24 ls [.int (nI 1), .int (nI n)]) (by rw [pk_sub (by omega), Nat.add_sub_cancel_left]) ?_
  refine lv_iload_n hx hb dJx4a65c_grow_92f84_24 rfl (lv_at hl 0 rfl) ?_
  refine lv_iconst (v := 1) hx hb dJx4a65c_grow_92f84_25 (by decide) ?_
  refine lv_ishr hx hb dJx4a65c_grow_92f84_26 ?_
  refine W.eq (g2 := F0 m 27 ls [.int (nI (n / 2)), .int (nI 1), .int (nI n)]) (by rw [pk_shrN (n := n) (by omega) ((1 : Int32) &&& 31) 1 (by decide), Nat.pow_one]) ?_
  refine ct_S E hS (c_J8_newLength l g F n (fun H => H.size = sz ∧ va_at g.1 vwCl (a, alO md q n) H ∧ va_at g.1 vwCl (q, alA g n f) H ∧ ∀ i, i < n → ∀ y, f i = some y → AO g y H ∧ y ≠ q) h0 hn) ok_J8_newLength_cabcc lk_Jx4a65c_73 hP0 rfl hl ⟨rfl, rfl⟩ rfl ⟨by decide, by decide⟩ dJx4a65c_grow_92f84_27 rfl (fun v9 H locs hv9 hS hz9 => ?_)
  obtain ⟨rfl, hsz, h1, h2, h3⟩ := hv9
  refine lv_istore_n (lv' := [(3, .int (nI (nwl n))), (2, .int (nI n)), (0, .ref a), (1, .int (nI (n + 1)))]) hx hb dJx4a65c_grow_92f84_30 rfl hl (by decide) rfl (fun ls hl => ?_)
  refine lv_aload_n hx hb dJx4a65c_grow_92f84_31 rfl (lv_at hl 2 rfl) ?_
  refine lv_aload_n hx hb dJx4a65c_grow_92f84_32 rfl (lv_at hl 2 rfl) ?_
  refine al_arr E h1 dJx4a65c_grow_92f84_33 ?_
  refine lv_iload_n hx hb dJx4a65c_grow_92f84_36 rfl (lv_at hl 0 rfl) ?_
  have hF1 : ∀ x, F x → (x < sz ∧ x ≠ q) := fun x h => ⟨hF x h, fun z => hq (z ▸ h)⟩
  refine ct_SF hF1 E hS (c_J7_copyOf2 l g (fun x => x < sz ∧ x ≠ q) q n (nwl n) sz f (fun x => Iff.rfl) (by omega) (by omega)) ok_J7_copyOf_1904c lk_Jx4a65c_66 ⟨hsz, h2, h3⟩ rfl hl ⟨rfl, rfl⟩ rfl ⟨Nat.le_refl _, Nat.le_refl _⟩ dJx4a65c_grow_92f84_37 rfl (fun v9 H1 locs hv9 hS hz9 hfr => ?_)
  obtain ⟨q1, rfl, hq1, h4⟩ := hv9
  have h5 := h1.kept (hfr a h1.lt ⟨hsz ▸ h1.lt, haq⟩)
  have hqa : q1 ≠ a := fun z => by have h9 : a < H.size := h1.lt; omega
  refine lv_dup_x1 hx hb dJx4a65c_grow_92f84_40 rfl rfl ?_
  refine al_qput E hS h5 ha dJx4a65c_grow_92f84_41 (fun H2 locs h6 hz oq hS => ?_)
  exact ct_aret (v := .ref q1) E hr (Or.inr ⟨_, rfl⟩) (Or.inr ⟨_, rfl⟩) hk hS ⟨q1, rfl, hq1, h6, h4.kept (oq _ hqa)⟩ dJx4a65c_grow_92f84_44 (Nat.le_refl _) (Nat.le_refl _)

set_option maxHeartbeats 4000000 in
set_option maxRecDepth 100000 in
theorem c_AL_growB (l : Launch) (g : cG) (F : Nat → Prop) (a sz : Nat) (md : Int32) (hF : ∀ x, F x → x < sz) (ha : ¬ F a) : CT l yJx4a65c_grow_92f84 cJx4a65c_grow_92f84 4 (some (.array (.object "java/lang/Object"))) 3 105 1 150 g F [.ref a, .int (nI 1)] (fun H => H.size = sz ∧ va_at g.1 vwCl (a, alO md g.2.2.1 0) H) (fun v H => ∃ q1 : Nat, v = some (.ref q1) ∧ sz ≤ q1 ∧ va_at g.1 vwCl (a, alO md q1 0) H ∧ va_at g.1 vwCl (q1, alA g 10 (fun _ => none)) H) := by
  refine CT.of (by decide) rfl ?_
  intro p e s m args below meth c E hr hk hnm hP ls hl
  have hS : va_S (nF F) s.heap s.heap [] := va_S.rf
  have hx := E.1
  have hb := E.2.1
  have hml := E.2.2.1
  have hown := E.2.2.2.1
  have hts := E.2.2.2.2.1
  have hG := E.2.2.2.2.2
  have hl : lv_has ls 4 [(0, .ref a), (1, .int (nI 1))] := hl
  obtain ⟨hsz, h1⟩ := hP
  have hZ := hG.2.2.1
  have hT := hG.2.2.2.1
  have hAO := hG.2.2.2.2.2.2.2.2.2.1
  refine lv_aload_n hx hb dJx4a65c_grow_92f84_0 rfl (lv_at hl 0 rfl) ?_
  refine al_arr E h1 dJx4a65c_grow_92f84_1 ?_
  refine va_tlen (v := 0) hx hb hT hS rfl dJx4a65c_grow_92f84_4 ?_
  refine lv_istore_n (lv' := [(2, .int 0), (0, .ref a), (1, .int (nI 1))]) hx hb dJx4a65c_grow_92f84_5 rfl hl (by decide) rfl (fun ls hl => ?_)
  refine lv_iload_n hx hb dJx4a65c_grow_92f84_6 rfl (lv_at hl 0 rfl) ?_
  refine lv_if_gt (tgt := 20) hx hb dJx4a65c_grow_92f84_7 (by decide) (fun c1 => absurd c1 (by decide)) (fun c1 => ?_)
  refine lv_aload_n hx hb dJx4a65c_grow_92f84_10 rfl (lv_at hl 1 rfl) ?_
  refine al_arr E h1 dJx4a65c_grow_92f84_11 ?_
  refine va_gets hx hb hZ hS hown (hts _ fk_Jx4a65c_39) (fun _ h9 => h9) dJx4a65c_grow_92f84_14 ?_
  refine lv_acmp_eq (rx := some g.2.2.1) (ry := some g.2.2.1) (tgt := 45) hx hb dJx4a65c_grow_92f84_17 (by decide) (fun c2 => ?_) (fun c2 => absurd rfl c2)
  refine lv_aload_n hx hb dJx4a65c_grow_92f84_45 rfl (lv_at hl 1 rfl) ?_
  refine lv_bipush (v := 10) hx hb dJx4a65c_grow_92f84_46 (by decide) ?_
  refine lv_iload_n hx hb dJx4a65c_grow_92f84_48 rfl (lv_at hl 2 rfl) ?_
  refine va_mmax hx hb (hml.trans hl.1.symm) hown (hts _ lk_Jx4a65c_79) (hts _ st_max) (hts _ in_J9) (hts _ cd_max) (Nat.le_of_ble_eq_true rfl) (Nat.le_of_ble_eq_true rfl) (Nat.le_of_ble_eq_true rfl) (Nat.le_of_ble_eq_true rfl) dJx4a65c_grow_92f84_49 ?_
  refine W.eq (g2 := F0 m 52 ls [.int (nI 10), .ref a]) (by rw [show (if (10 : Int32) < nI 1 then nI 1 else 10) = nI 10 by decide]) ?_
  refine w_newq (N' := 10) E kl_Jx4a65c_7 hS (by decide) (by decide) (by decide) (Nat.le_of_ble_eq_true rfl) (Nat.le_of_ble_eq_true rfl) dJx4a65c_grow_92f84_52 (fun H1 h2 z1 o1 hS1 => ?_)
  have h3 := h1.kept (o1 a h1.lt)
  have hqa : s.heap.size ≠ a := fun z => by have h9 : a < s.heap.size := h1.lt; omega
  refine lv_dup_x1 hx hb dJx4a65c_grow_92f84_55 rfl rfl ?_
  refine al_qput E hS1 h3 ha dJx4a65c_grow_92f84_56 (fun H2 locs h6 hz oq hS => ?_)
  exact ct_aret (v := .ref s.heap.size) E hr (Or.inr ⟨_, rfl⟩) (Or.inr ⟨_, rfl⟩) hk hS ⟨s.heap.size, rfl, by omega, h6, h2.kept (oq _ hqa)⟩ dJx4a65c_grow_92f84_59 (Nat.le_refl _) (Nat.le_of_ble_eq_true rfl)

set_option maxHeartbeats 4000000 in
set_option maxRecDepth 100000 in
theorem c_AL_grow0A (l : Launch) (g : cG) (F : Nat → Prop) (a q n sz : Nat) (md : Int32) (f : Nat → Option Nat) (hF : ∀ x, F x → x < sz) (ha : ¬ F a) (hq : ¬ F q) (haq : a ≠ q) (h0 : 0 < n) (hn : n ≤ 100) : CT l yJx4a65c_grow_d5877 cJx4a65c_grow_d5877 1 (some (.array (.object "java/lang/Object"))) 4 128 1 150 g F [.ref a] (fun H => H.size = sz ∧ va_at g.1 vwCl (a, alO md q n) H ∧ va_at g.1 vwCl (q, alA g n f) H ∧ ∀ i, i < n → ∀ y, f i = some y → AO g y H ∧ y ≠ q) (fun v H => ∃ q1 : Nat, v = some (.ref q1) ∧ sz ≤ q1 ∧ va_at g.1 vwCl (a, alO md q1 n) H ∧ va_at g.1 vwCl (q1, alA g (nwl n) (va_cpy f (fun _ => none) 0 0 n)) H) := by
  refine CT.of (by decide) rfl ?_
  intro p e s m args below meth c E hr hk hnm hP ls hl
  have hS : va_S (nF F) s.heap s.heap [] := va_S.rf
  have hx := E.1
  have hb := E.2.1
  have hml := E.2.2.1
  have hown := E.2.2.2.1
  have hts := E.2.2.2.2.1
  have hG := E.2.2.2.2.2
  have hl : lv_has ls 1 [(0, .ref a)] := hl
  have hP0 := hP
  obtain ⟨hsz, h1, h2, h3⟩ := hP
  refine lv_aload_n hx hb dJx4a65c_grow_d5877_0 rfl (lv_at hl 0 rfl) ?_
  refine lv_aload_n hx hb dJx4a65c_grow_d5877_1 rfl (lv_at hl 0 rfl) ?_
  refine al_len E h1 dJx4a65c_grow_d5877_2 ?_
  refine lv_iconst (v := 1) hx hb dJx4a65c_grow_d5877_5 (by decide) ?_
  refine lv_iadd hx hb dJx4a65c_grow_d5877_6 ?_
  refine W.eq (g2 := F0 m 7 ls [.int (nI (n + 1)), .ref a]) (by rw [nI_1]) ?_
  refine ct_V E hS (c_AL_growA l g F a q n sz md f hF ha hq haq h0 hn) ok_Jx4a65c_grow_92f84 lk_Jx4a65c_69 hP0 (va_recv (q := (RJx4a65c, TJx4a65c, 3)) (q0 := 0) (ci := 2) hG.1 (va_P1 h1) rfl rfl) rfl hl ⟨rfl, rfl⟩ rfl ⟨Nat.le_refl _, Nat.le_refl _⟩ dJx4a65c_grow_d5877_7 rfl (fun v9 H locs hv9 hS hz9 => ?_)
  obtain ⟨q1, rfl, hv9⟩ := hv9
  exact ct_aret (v := .ref q1) E hr (Or.inr ⟨_, rfl⟩) (Or.inr ⟨_, rfl⟩) hk hS ⟨q1, rfl, hv9⟩ dJx4a65c_grow_d5877_10 (Nat.le_refl _) (Nat.le_refl _)

set_option maxHeartbeats 4000000 in
set_option maxRecDepth 100000 in
theorem c_AL_grow0B (l : Launch) (g : cG) (F : Nat → Prop) (a sz : Nat) (md : Int32) (hF : ∀ x, F x → x < sz) (ha : ¬ F a) : CT l yJx4a65c_grow_d5877 cJx4a65c_grow_d5877 1 (some (.array (.object "java/lang/Object"))) 4 128 1 150 g F [.ref a] (fun H => H.size = sz ∧ va_at g.1 vwCl (a, alO md g.2.2.1 0) H) (fun v H => ∃ q1 : Nat, v = some (.ref q1) ∧ sz ≤ q1 ∧ va_at g.1 vwCl (a, alO md q1 0) H ∧ va_at g.1 vwCl (q1, alA g 10 (fun _ => none)) H) := by
  refine CT.of (by decide) rfl ?_
  intro p e s m args below meth c E hr hk hnm hP ls hl
  have hS : va_S (nF F) s.heap s.heap [] := va_S.rf
  have hx := E.1
  have hb := E.2.1
  have hml := E.2.2.1
  have hown := E.2.2.2.1
  have hts := E.2.2.2.2.1
  have hG := E.2.2.2.2.2
  have hl : lv_has ls 1 [(0, .ref a)] := hl
  have hP0 := hP
  obtain ⟨hsz, h1⟩ := hP
  refine lv_aload_n hx hb dJx4a65c_grow_d5877_0 rfl (lv_at hl 0 rfl) ?_
  refine lv_aload_n hx hb dJx4a65c_grow_d5877_1 rfl (lv_at hl 0 rfl) ?_
  refine al_len E h1 dJx4a65c_grow_d5877_2 ?_
  refine lv_iconst (v := 1) hx hb dJx4a65c_grow_d5877_5 (by decide) ?_
  refine lv_iadd hx hb dJx4a65c_grow_d5877_6 ?_
  refine W.eq (g2 := F0 m 7 ls [.int (nI 1), .ref a]) (by rw [nI_1]) ?_
  refine ct_V E hS (c_AL_growB l g F a sz md hF ha) ok_Jx4a65c_grow_92f84 lk_Jx4a65c_69 hP0 (va_recv (q := (RJx4a65c, TJx4a65c, 3)) (q0 := 0) (ci := 2) hG.1 (va_P1 h1) rfl rfl) rfl hl ⟨rfl, rfl⟩ rfl ⟨Nat.le_refl _, Nat.le_refl _⟩ dJx4a65c_grow_d5877_7 rfl (fun v9 H locs hv9 hS hz9 => ?_)
  obtain ⟨q1, rfl, hv9⟩ := hv9
  exact ct_aret (v := .ref q1) E hr (Or.inr ⟨_, rfl⟩) (Or.inr ⟨_, rfl⟩) hk hS ⟨q1, rfl, hv9⟩ dJx4a65c_grow_d5877_10 (Nat.le_refl _) (Nat.le_refl _)

section ALS
variable {p : Program} {l : Launch} {e : Env} {R : Room} {s : State} {m : MethodId} {args : Array Value} {below : List Frame} {meth : Method} {c : Code} {H : Heap} {locs : List Loc} {cells slots : Nat} {Q : State → Prop}
variable {cc : ByteArray} {pc nL : Nat} {ls : Array Slot} {rest : List Value} {own : String} {g : cG} {F : Nat → Prop} {H0 : Heap} {q cap : Nat} {f : Nat → Option Nat}
theorem w_aast (E : EN p s m c cc nL args own g F) (hS0 : va_S (nF F) H0 H locs) {x : Nat} (he : va_at g.1 vwCl (q, alA g cap f) H) (ha : ¬ F q) (hr : va_Any "java/lang/Object" s H x) {i : Int32} {j : Nat} (hi : i = nI j) (hj : j < cap) (hc : cap ≤ 200) (hdg : decode cc pc = .ok (.aastore, 1))
    (kk : ∀ (H1 : Heap) (locs1 : List Loc), va_at g.1 vwCl (q, alA g cap (va_up f j (some x))) H1 → H1.size = H.size → (∀ z, z ≠ q → H1[z]? = H[z]?) → va_S (nF F) H0 H1 locs1 → W p l e R s m args below meth c H1 locs1 cells slots Q (F0 m (pc + 1) ls rest)) : W p l e R s m args below meth c H locs cells slots Q (F0 m pc ls (.ref x :: .int i :: .ref q :: rest)) := by
  subst hi
  have hcl : (nI j).toNatClampNeg = j := nI_clamp (by omega)
  obtain ⟨cellV, g1, g3, ⟨kC, hkC⟩, hasg⟩ := hr
  obtain ⟨kA, comp, k1, k2, k3, -⟩ := (E.2.2.2.2.2.1.2 3 _ rfl).2
  obtain ⟨kE, hkE, -⟩ := Vm.findClass_spec k3
  refine W.aast E.1 E.2.1 he (fun q h => by cases h) (fun h => by cases h) k1 k2 rfl hkE ⟨nI_pos (by omega), by show _ < (arrV _ _ _).slots.size; rw [arrV_size, hcl]; exact hj⟩ g1 (fun q h => by rw [h] at g3; cases g3) hkC (hasg _ k3) rfl rfl hdg fun H1 e z oq => ?_
  refine kk H1 _ ?_ z oq (hS0.put z oq ha)
  show H1[q]? = some (vp_cell _ _)
  rw [e, vp_cell_q, vp_cell_q, arrV_store, hcl]
  congr 2
  funext z
  by_cases hz : z = j
  · subst hz
    simp [updV, va_up, va_rf]
  · simp [updV, va_up, hz]
theorem w_aastN (E : EN p s m c cc nL args own g F) (hS0 : va_S (nF F) H0 H locs) (he : va_at g.1 vwCl (q, alA g cap f) H) (ha : ¬ F q) {i : Int32} {j : Nat} (hi : i = nI j) (hj : j < cap) (hc : cap ≤ 200) (hdg : decode cc pc = .ok (.aastore, 1))
    (kk : ∀ (H1 : Heap) (locs1 : List Loc), va_at g.1 vwCl (q, alA g cap (va_up f j none)) H1 → H1.size = H.size → (∀ z, z ≠ q → H1[z]? = H[z]?) → va_S (nF F) H0 H1 locs1 → W p l e R s m args below meth c H1 locs1 cells slots Q (F0 m (pc + 1) ls rest)) : W p l e R s m args below meth c H locs cells slots Q (F0 m pc ls (.null :: .int i :: .ref q :: rest)) := by
  subst hi
  have hcl : (nI j).toNatClampNeg = j := nI_clamp (by omega)
  refine va_WaastN (C := "java/lang/Object") E.1 E.2.1 he ((E.2.2.2.2.2.1.2 3 _ rfl).1 cap (fun j => va_rf (f j))) (fun h => by cases h) (by show ¬ (nI j < 0 ∨ (arrV _ _ _).slots.size ≤ _); rw [arrV_size]; exact vp_in_nI (N := cap) hj (by omega)) rfl rfl hdg fun H1 e z oq => ?_
  refine kk H1 _ ?_ z oq (hS0.put z oq ha)
  show H1[q]? = some (vp_cell _ _)
  rw [e, vp_cell_q, vp_cell_q, arrV_store, hcl]
  congr 2
  funext z
  by_cases hz : z = j
  · subst hz
    simp [updV, va_up, va_rf]
  · simp [updV, va_up, hz]
end ALS

set_option maxHeartbeats 4000000 in
set_option maxRecDepth 100000 in
theorem c_AL_add3 (l : Launch) (g : cG) (F : Nat → Prop) (a q x sz : Nat) (els : List Nat) (hF : ∀ z, F z → z < sz) (hx9 : F x) (hy9 : ∀ y, y ∈ els → F y) (hn : els.length ≤ 99) : CT l yJx4a65c_add_72be8 cJx4a65c_add_72be8 4 none 5 150 1 150 g F [.ref a, .ref x, .ref q, .int (nI els.length)] (fun H => H.size = sz ∧ AL g F a q els H ∧ AO g x H) (fun v H => v = none ∧ ∃ q1 : Nat, (q1 = q ∨ sz ≤ q1) ∧ AL g F a q1 (els ++ [x]) H) := by
  refine CT.of (by decide) rfl ?_
  intro p e s m args below meth c E hr hk hnm hP ls hl
  have hS : va_S (nF F) s.heap s.heap [] := va_S.rf
  have hx := E.1
  have hb := E.2.1
  have hml := E.2.2.1
  have hown := E.2.2.2.1
  have hts := E.2.2.2.2.1
  have hG := E.2.2.2.2.2
  have hl : lv_has ls 4 [(0, .ref a), (1, .ref x), (2, .ref q), (3, .int (nI els.length))] := hl
  obtain ⟨hsz, hL, hX⟩ := hP
  obtain ⟨ha, ⟨md, h1⟩, hy, hA⟩ := hL
  -- the end, with room in the array at q1
  have TAIL : ∀ (q1 cap : Nat) (f : Nat → Option Nat) (H : Heap) (locs : List Loc) (cells slots : Nat) (ls : Array Slot), (q1 = q ∨ sz ≤ q1) → ¬ F q1 → q1 ≠ a → va_S (nF F) s.heap H locs → va_at g.1 vwCl (a, alO md q1 els.length) H → va_at g.1 vwCl (q1, alA g cap f) H → els.length < cap → cap ≤ 200 → (∀ i, i < els.length → f i = els[i]?) → cells ≤ 1 → slots ≤ 150 → lv_has ls 4 [(0, .ref a), (1, .ref x), (2, .ref q1), (3, .int (nI els.length))] →
      W p l e { frames := 5, cells := 1, slots := 150, locals := 150 } s m args below meth c H locs cells slots (MQ below (Qg F (fun v H => v = none ∧ ∃ q1 : Nat, (q1 = q ∨ sz ≤ q1) ∧ AL g F a q1 (els ++ [x]) H)) args s 1 150 (nF F)) (F0 m 11 ls []) := by
    intro q1 cap f H locs cells slots ls hq1 hFq hqa hS k1 k2 hc1 hc2 hf hcs hss hl
    refine lv_aload_n hx hb dJx4a65c_add_72be8_11 rfl (lv_at hl 2 rfl) ?_
    refine lv_iload_n hx hb dJx4a65c_add_72be8_12 rfl (lv_at hl 3 rfl) ?_
    refine lv_aload_n hx hb dJx4a65c_add_72be8_13 rfl (lv_at hl 1 rfl) ?_
    have hX1 : AO g x H := hX.kept (hS.2.1 x hX.lt (fun z => z hx9))
    refine w_aast E hS k2 hFq (hX1.any hG) rfl hc1 hc2 dJx4a65c_add_72be8_14 (fun H2 locs2 k3 z3 oq3 hS => ?_)
    refine lv_aload_n hx hb dJx4a65c_add_72be8_15 rfl (lv_at hl 0 rfl) ?_
    refine lv_iload_n hx hb dJx4a65c_add_72be8_16 rfl (lv_at hl 3 rfl) ?_
    refine lv_iconst (v := 1) hx hb dJx4a65c_add_72be8_17 (by decide) ?_
    refine lv_iadd hx hb dJx4a65c_add_72be8_18 ?_
    refine W.eq (g2 := F0 m 19 ls [.int (nI (els.length + 1)), .ref a]) (by rw [nI_1]) ?_
    refine al_nput E hS (k1.kept (oq3 a hqa.symm)) ha dJx4a65c_add_72be8_19 (fun H4 locs4 k4 z4 oq4 hS => ?_)
    have hel : ∀ y, y ∈ els ++ [x] → AO g y H4 := fun y hy8 => by
      have h8 : F y ∧ AO g y s.heap := by
        rcases List.mem_append.mp hy8 with h | h
        · exact ⟨hy9 y h, hy y h⟩
        · rw [List.mem_singleton.mp h]; exact ⟨hx9, hX⟩
      exact h8.2.kept (hS.2.1 y h8.2.lt (fun z => z h8.1))
    refine ct_vret E hr hk hS ⟨rfl, q1, hq1, ha, ⟨md, ?_⟩, hel, Or.inr ⟨hFq, hqa, cap, va_up f els.length (some x), k3.kept (oq4 _ hqa), ?_, by omega, hc2, ?_⟩⟩ dJx4a65c_add_72be8_22 hcs hss
    · rw [List.length_append]; exact k4
    · rw [List.length_append]; exact hc1
    · intro i hi
      rw [List.length_append, List.length_singleton] at hi
      by_cases h : i = els.length
      · subst h; simp [va_up]
      · rw [List.getElem?_append_left (by omega), ← hf i (by omega)]; simp [va_up, h]
  have hxa : x ≠ a := fun z => ha (z ▸ hx9)
  rcases hA with ⟨rfl, rfl⟩ | ⟨hFq, hqa, cap, f, h2, hc1, hc0, hc2, hf⟩
  · -- the first one
    refine lv_iload_n hx hb dJx4a65c_add_72be8_0 rfl (lv_at hl 3 rfl) ?_
    refine lv_aload_n hx hb dJx4a65c_add_72be8_1 rfl (lv_at hl 2 rfl) ?_
    refine va_tlen (v := 0) hx hb hG.2.2.2.1 hS rfl dJx4a65c_add_72be8_2 ?_
    refine lv_icmp_ne (tgt := 11) hx hb dJx4a65c_add_72be8_3 (by decide) (fun c1 => absurd (show nI 0 = 0 from rfl) c1) (fun c1 => ?_)
    refine lv_aload_n hx hb dJx4a65c_add_72be8_6 rfl (lv_at hl 0 rfl) ?_
    refine ct_V E hS (c_AL_grow0B l g F a sz md hF ha) ok_Jx4a65c_grow_d5877 lk_Jx4a65c_129 ⟨hsz, h1⟩ (va_recv (q := (RJx4a65c, TJx4a65c, 3)) (q0 := 0) (ci := 2) hG.1 (va_P1 h1) rfl rfl) rfl hl ⟨rfl, rfl⟩ rfl ⟨Nat.le_refl _, Nat.le_refl _⟩ dJx4a65c_add_72be8_7 rfl (fun v9 H locs hv9 hS hz9 => ?_)
    obtain ⟨q1, rfl, hq1, h3, h4⟩ := hv9
    refine lv_astore_n (lv' := [(2, .ref q1), (0, .ref a), (1, .ref x), (3, .int (nI 0))]) hx hb dJx4a65c_add_72be8_10 rfl hl (by decide) rfl (fun ls hl => ?_)
    have hla : a < s.heap.size := h1.lt
    exact TAIL q1 10 _ H locs _ _ ls (Or.inr hq1) (fun z => by have := hF q1 z; omega) (by omega) hS h3 h4 (by decide) (by decide) (fun i hi => absurd hi (by simp)) (Nat.le_refl _) (Nat.le_refl _) (lv_sub hl [1, 2, 0, 3] rfl)
  · refine lv_iload_n hx hb dJx4a65c_add_72be8_0 rfl (lv_at hl 3 rfl) ?_
    refine lv_aload_n hx hb dJx4a65c_add_72be8_1 rfl (lv_at hl 2 rfl) ?_
    refine va_alen (ty := .object "java/lang/Object") hx hb hG.1 (va_P1 h2) 0 rfl (t0 := 3) (v := nI cap) rfl rfl dJx4a65c_add_72be8_2 ?_
    refine lv_icmp_ne (tgt := 11) hx hb dJx4a65c_add_72be8_3 (by decide) (fun c1 => ?_) (fun c1 => ?_)
    · have hne : els.length ≠ cap := fun z => c1 (by rw [z])
      exact TAIL q cap f s.heap _ _ _ ls (Or.inl rfl) hFq hqa hS h1 h2 (by omega) hc2 hf (Nat.zero_le _) (Nat.zero_le _) hl
    · have heq : els.length = cap := (nI_eq (by omega) (by omega)).mp c1
      subst heq
      refine lv_aload_n hx hb dJx4a65c_add_72be8_6 rfl (lv_at hl 0 rfl) ?_
      have hyq : ∀ i, i < els.length → ∀ y, f i = some y → AO g y s.heap ∧ y ≠ q := fun i hi y hy8 => by
        rw [hf i hi] at hy8
        have hm := List.mem_of_getElem? hy8
        exact ⟨hy y hm, fun z => hFq (z ▸ hy9 y hm)⟩
      refine ct_V E hS (c_AL_grow0A l g F a q els.length sz md f hF ha hFq hqa.symm hc0 (by omega)) ok_Jx4a65c_grow_d5877 lk_Jx4a65c_129 ⟨hsz, h1, h2, hyq⟩ (va_recv (q := (RJx4a65c, TJx4a65c, 3)) (q0 := 0) (ci := 2) hG.1 (va_P1 h1) rfl rfl) rfl hl ⟨rfl, rfl⟩ rfl ⟨Nat.le_refl _, Nat.le_refl _⟩ dJx4a65c_add_72be8_7 rfl (fun v9 H locs hv9 hS hz9 => ?_)
      obtain ⟨q1, rfl, hq1, h3, h4⟩ := hv9
      refine lv_astore_n (lv' := [(2, .ref q1), (0, .ref a), (1, .ref x), (3, .int (nI els.length))]) hx hb dJx4a65c_add_72be8_10 rfl hl (by decide) rfl (fun ls hl => ?_)
      have hla : a < s.heap.size := h1.lt
      have hw := nwl_le (n := els.length) (by omega) hc0
      exact TAIL q1 (nwl els.length) _ H locs _ _ ls (Or.inr hq1) (fun z => by have := hF q1 z; omega) (by omega) hS h3 h4 (by omega) (by omega) (fun i hi => by rw [pk_cpy_in (Nat.zero_le _) (by omega)]; rw [← hf i hi]; congr 1; omega) (Nat.le_refl _) (Nat.le_refl _) (lv_sub hl [1, 2, 0, 3] rfl)

set_option maxHeartbeats 4000000 in
set_option maxRecDepth 100000 in
theorem c_AL_add (l : Launch) (g : cG) (F : Nat → Prop) (a q x sz : Nat) (els : List Nat) (hF : ∀ z, F z → z < sz) (hx9 : F x) (hy9 : ∀ y, y ∈ els → F y) (hn : els.length ≤ 99) : CT l yJx4a65c_add_9ea2d cJx4a65c_add_9ea2d 2 (some .boolean) 6 173 1 150 g F [.ref a, .ref x] (fun H => H.size = sz ∧ AL g F a q els H ∧ AO g x H) (fun v H => v = some (.int 1) ∧ ∃ q1 : Nat, (q1 = q ∨ sz ≤ q1) ∧ AL g F a q1 (els ++ [x]) H) := by
  refine CT.of (by decide) rfl ?_
  intro p e s m args below meth c E hr hk hnm hP ls hl
  have hS : va_S (nF F) s.heap s.heap [] := va_S.rf
  have hx := E.1
  have hb := E.2.1
  have hml := E.2.2.1
  have hown := E.2.2.2.1
  have hts := E.2.2.2.2.1
  have hG := E.2.2.2.2.2
  have hl : lv_has ls 2 [(0, .ref a), (1, .ref x)] := hl
  obtain ⟨hsz, hL, hX⟩ := hP
  obtain ⟨ha, ⟨md, h1⟩, hy, hA⟩ := hL
  refine lv_aload_n hx hb dJx4a65c_add_9ea2d_0 rfl (lv_at hl 0 rfl) ?_
  refine lv_dup hx hb dJx4a65c_add_9ea2d_1 rfl ?_
  refine al_mget E h1 dJx4a65c_add_9ea2d_2 ?_
  refine lv_iconst (v := 1) hx hb dJx4a65c_add_9ea2d_5 (by decide) ?_
  refine lv_iadd hx hb dJx4a65c_add_9ea2d_6 ?_
  refine al_mput E hS h1 ha dJx4a65c_add_9ea2d_7 (fun H1 locs1 k1 z1 oq1 hS => ?_)
  refine lv_aload_n hx hb dJx4a65c_add_9ea2d_10 rfl (lv_at hl 0 rfl) ?_
  refine lv_aload_n hx hb dJx4a65c_add_9ea2d_11 rfl (lv_at hl 1 rfl) ?_
  refine lv_aload_n hx hb dJx4a65c_add_9ea2d_12 rfl (lv_at hl 0 rfl) ?_
  refine al_arr E k1 dJx4a65c_add_9ea2d_13 ?_
  refine lv_aload_n hx hb dJx4a65c_add_9ea2d_16 rfl (lv_at hl 0 rfl) ?_
  refine al_len E k1 dJx4a65c_add_9ea2d_17 ?_
  have hL1 : AL g F a q els H1 := by
    refine ⟨ha, ⟨_, k1⟩, fun y hy8 => (hy y hy8).kept (oq1 y (fun z => ha (z ▸ hy9 y hy8))), ?_⟩
    rcases hA with h | ⟨hFq, hqa, cap, f, h2, h3⟩
    · exact Or.inl h
    · exact Or.inr ⟨hFq, hqa, cap, f, h2.kept (oq1 _ hqa), h3⟩
  have hX1 : AO g x H1 := hX.kept (oq1 x (fun z => ha (z ▸ hx9)))
  refine ct_V E hS (c_AL_add3 l g F a q x sz els hF hx9 hy9 hn) ok_Jx4a65c_add_72be8 lk_Jx4a65c_131 ⟨z1.trans hsz, hL1, hX1⟩ (va_recv (q := (RJx4a65c, TJx4a65c, 3)) (q0 := 0) (ci := 2) hG.1 (va_P1 k1) rfl rfl) rfl hl ⟨rfl, rfl⟩ rfl ⟨Nat.le_refl _, Nat.le_refl _⟩ dJx4a65c_add_9ea2d_20 rfl (fun v9 H locs hv9 hS hz9 => ?_)
  obtain ⟨rfl, hv9⟩ := hv9
  refine lv_iconst (v := 1) hx hb dJx4a65c_add_9ea2d_23 (by decide) ?_
  exact ct_zret E hr (by decide) hk hS ⟨rfl, hv9⟩ dJx4a65c_add_9ea2d_24 (Nat.le_refl _) (Nat.le_refl _)
end
section
set_option maxRecDepth 100000 in
theorem cd_obj : Cond.code objectInit ⟨#[0xb1]⟩ 1 none ∈ lw_g := lw_gi 92 rfl rfl
set_option maxRecDepth 100000 in
theorem im_obj : Cond.instanceMethod objectInit ∈ lw_g := lw_gi 91 rfl rfl
theorem va_P2 {D : va_G} {cl : List vw_C} {x y : Nat × va_E} {H : Heap} (h1 : va_at D cl x H) (h2 : va_at D cl y H) : va_P D cl [x, y] H := fun k z hz => by
  match k, hz with
  | 0, h9 => cases h9; exact h1
  | 1, h9 => cases h9; exact h2
  | k + 2, h9 => simp at h9
theorem va_D2 {A : Nat → Prop} {x y : Nat} {e e2 : va_E} (h1 : A x) (h2 : A y) (h : x ≠ y) : va_D A [(x, e), (y, e2)] := ⟨fun i j u v hi hj huv => by
    match i, j, hi, hj with
    | 0, 0, _, _ => rfl
    | 1, 1, _, _ => rfl
    | 0, 1, hi, hj => cases hi; cases hj; exact absurd huv h
    | 1, 0, hi, hj => cases hi; cases hj; exact absurd huv.symm h
    | i + 2, _, hi, _ => simp at hi
    | _, j + 2, _, hj => simp at hj, fun k u hu => by
    match k, hu with
    | 0, h9 => cases h9; exact h1
    | 1, h9 => cases h9; exact h2
    | k + 2, h9 => simp at h9⟩
set_option maxHeartbeats 4000000 in
set_option maxRecDepth 100000 in
theorem c_AL_fastRemove (l : Launch) (g : cG) (F : Nat → Prop) (a q i sz : Nat) (els : List Nat) (hF : ∀ z, F z → z < sz) (hy9 : ∀ y, y ∈ els → F y) (hi : i < els.length) (hn : els.length ≤ 99) : CT l yJx4a65c_fastRemove_b59b0 cJx4a65c_fastRemove_b59b0 4 none 1 60 0 0 g F [.ref a, .ref q, .int (nI i)] (fun H => H.size = sz ∧ AL g F a q els H) (fun v H => v = none ∧ AL g F a q (els.eraseIdx i) H) := by
  refine CT.of (by decide) rfl ?_
  intro p e s m args below meth c E hr hk hnm hP ls hl
  have hS : va_S (nF F) s.heap s.heap [] := va_S.rf
  have hx := E.1
  have hb := E.2.1
  have hml := E.2.2.1
  have hown := E.2.2.2.1
  have hts := E.2.2.2.2.1
  have hG := E.2.2.2.2.2
  have hl : lv_has ls 4 [(0, .ref a), (1, .ref q), (2, .int (nI i))] := hl
  obtain ⟨hsz, hL⟩ := hP
  obtain ⟨ha, ⟨md, h1⟩, hy, hA⟩ := hL
  rcases hA with ⟨rfl, -⟩ | ⟨hFq, hqa, cap, f, h2, hc1, hc0, hc2, hf⟩
  · exact absurd hi (by simp)
  obtain ⟨n, hnn⟩ : ∃ n, els.length = n + 1 := ⟨els.length - 1, by omega⟩
  have h1 : va_at g.1 vwCl (a, alO md q (n + 1)) s.heap := by rw [← hnn]; exact h1
  refine lv_aload_n hx hb dJx4a65c_fastRemove_b59b0_0 rfl (lv_at hl 0 rfl) ?_
  refine lv_dup hx hb dJx4a65c_fastRemove_b59b0_1 rfl ?_
  refine al_mget E h1 dJx4a65c_fastRemove_b59b0_2 ?_
  refine lv_iconst (v := 1) hx hb dJx4a65c_fastRemove_b59b0_5 (by decide) ?_
  refine lv_iadd hx hb dJx4a65c_fastRemove_b59b0_6 ?_
  refine al_mput E hS h1 ha dJx4a65c_fastRemove_b59b0_7 (fun H1 locs1 k1 z1 oq1 hS => ?_)
  have k2 := h2.kept (oq1 _ hqa)
  refine lv_aload_n hx hb dJx4a65c_fastRemove_b59b0_10 rfl (lv_at hl 0 rfl) ?_
  refine al_len E k1 dJx4a65c_fastRemove_b59b0_11 ?_
  refine lv_iconst (v := 1) hx hb dJx4a65c_fastRemove_b59b0_14 (by decide) ?_
  refine lv_isub hx hb dJx4a65c_fastRemove_b59b0_15 ?_
  refine W.eq (g2 := F0 m 16 ls [.int (nI n)]) (by rw [nI_pred]) ?_
  refine lv_dup hx hb dJx4a65c_fastRemove_b59b0_16 rfl ?_
  refine lv_istore_n (lv' := [(3, .int (nI n)), (0, .ref a), (1, .ref q), (2, .int (nI i))]) hx hb dJx4a65c_fastRemove_b59b0_17 rfl hl (by decide) rfl (fun ls hl => ?_)
  refine lv_iload_n hx hb dJx4a65c_fastRemove_b59b0_18 rfl (lv_at hl 3 rfl) ?_
  -- from 34 on, the array holding what is left in its first n places
  have TAIL : ∀ (f1 : Nat → Option Nat) (H : Heap) (locs : List Loc) (ls : Array Slot), va_S (nF F) s.heap H locs → va_at g.1 vwCl (a, alO (md + 1) q (n + 1)) H → va_at g.1 vwCl (q, alA g cap f1) H → (∀ j, j < n → f1 j = (els.eraseIdx i)[j]?) → lv_has ls 4 [(3, .int (nI n)), (0, .ref a), (1, .ref q), (2, .int (nI i))] →
      W p l e { frames := 1, cells := 0, slots := 0, locals := 60 } s m args below meth c H locs 0 0 (MQ below (Qg F (fun v H => v = none ∧ AL g F a q (els.eraseIdx i) H)) args s 0 0 (nF F)) (F0 m 34 ls []) := by
    intro f1 H locs ls hS k1 k2 hf1 hl
    refine lv_aload_n hx hb dJx4a65c_fastRemove_b59b0_34 rfl (lv_at hl 2 rfl) ?_
    refine lv_aload_n hx hb dJx4a65c_fastRemove_b59b0_35 rfl (lv_at hl 1 rfl) ?_
    refine lv_iload_n hx hb dJx4a65c_fastRemove_b59b0_36 rfl (lv_at hl 0 rfl) ?_
    refine lv_dup_x1 hx hb dJx4a65c_fastRemove_b59b0_37 rfl rfl ?_
    refine al_nput E hS k1 ha dJx4a65c_fastRemove_b59b0_38 (fun H2 locs2 k3 z3 oq3 hS => ?_)
    refine lv_null hx hb dJx4a65c_fastRemove_b59b0_41 ?_
    refine w_aastN E hS (k2.kept (oq3 _ hqa)) hFq rfl (by omega) hc2 dJx4a65c_fastRemove_b59b0_42 (fun H3 locs3 k4 z4 oq4 hS => ?_)
    have hlen : (els.eraseIdx i).length = n := by rw [List.length_eraseIdx, if_pos (by omega)]; omega
    refine ct_vret E hr hk hS ⟨rfl, ha, ⟨md + 1, ?_⟩, fun y hy8 => ?_, Or.inr ⟨hFq, hqa, cap, _, k4, ?_, hc0, hc2, ?_⟩⟩ dJx4a65c_fastRemove_b59b0_43
    · rw [hlen]; exact k3.kept (oq4 _ hqa.symm)
    · have hm := List.mem_of_mem_eraseIdx hy8
      exact (hy y hm).kept (hS.2.1 y (hy y hm).lt (fun z => z (hy9 y hm)))
    · omega
    · intro j hj
      rw [hlen] at hj
      rw [← hf1 j hj]
      show va_up f1 n none j = f1 j
      exact va_up_ne _ _ (by omega)
  refine lv_icmp_le (tgt := 34) hx hb dJx4a65c_fastRemove_b59b0_19 (by decide) (fun c1 => ?_) (fun c1 => ?_)
  · have hni : n ≤ i := (nI_leI (by omega) (by omega)).mp c1
    refine TAIL f H1 locs1 ls hS k1 k2 (fun j hj => ?_) hl
    rw [hf j (by omega), List.getElem?_eraseIdx, if_pos (by omega)]
  · have hni : i < n := Nat.lt_of_not_le (fun h9 => c1 (nI_le h9 (by omega)))
    refine lv_aload_n hx hb dJx4a65c_fastRemove_b59b0_22 rfl (lv_at hl 2 rfl) ?_
    refine lv_iload_n hx hb dJx4a65c_fastRemove_b59b0_23 rfl (lv_at hl 3 rfl) ?_
    refine lv_iconst (v := 1) hx hb dJx4a65c_fastRemove_b59b0_24 (by decide) ?_
    refine lv_iadd hx hb dJx4a65c_fastRemove_b59b0_25 ?_
    refine lv_aload_n hx hb dJx4a65c_fastRemove_b59b0_26 rfl (lv_at hl 2 rfl) ?_
    refine lv_iload_n hx hb dJx4a65c_fastRemove_b59b0_27 rfl (lv_at hl 3 rfl) ?_
    refine lv_iload_n hx hb dJx4a65c_fastRemove_b59b0_28 rfl (lv_at hl 0 rfl) ?_
    refine lv_iload_n hx hb dJx4a65c_fastRemove_b59b0_29 rfl (lv_at hl 3 rfl) ?_
    refine lv_isub hx hb dJx4a65c_fastRemove_b59b0_30 ?_
    refine W.eq (g2 := F0 m 31 ls [.int (nI (n - i)), .int (nI i), .ref q, .int (nI (i + 1)), .ref q]) (by rw [nI_1, pk_sub (by omega)]) ?_
    have e1 : (nI (n - i)).toNatClampNeg = n - i := nI_clamp (by omega)
    have e2 : (nI (i + 1)).toNatClampNeg = i + 1 := nI_clamp (by omega)
    have e3 : (nI i).toNatClampNeg = i := nI_clamp (by omega)
    refine va_copyM (E0 := "java/lang/Object") (E1 := "java/lang/Object") hx hb (hml.trans hl.1.symm) hown (hts _ lk_Jx4a65c_112) (hts _ nt_copy) (hts _ st_copy) (hts _ in_J10) hG.1 (va_P2 k1 k2) (va_D2 ha hFq hqa.symm) hS 1 1 3 3 rfl rfl rfl rfl (nI_pos (by omega)) (nI_pos (by omega)) (nI_pos (by omega)) (by rw [e1, e2]; omega) (by rw [e1, e3]; omega) (fun j hj y hy8 => by
      rw [e1] at hj
      rw [e2] at hy8
      rw [hf _ (by omega)] at hy8
      have hm := List.mem_of_getElem? hy8
      exact ((hy y hm).kept (oq1 y (fun z => ha (z ▸ hy9 y hm)))).any hG) (Nat.le_of_ble_eq_true rfl) (Nat.le_of_ble_eq_true rfl) dJx4a65c_fastRemove_b59b0_31 (fun H2 locs2 hP2 hD2 hS2 => ?_)
    rw [e1, e2, e3] at hP2
    refine TAIL _ H2 locs2 ls hS2 (hP2 0 _ rfl) (hP2 1 _ rfl) (fun j hj => ?_) hl
    rw [List.getElem?_eraseIdx]
    by_cases h : j < i
    · rw [if_pos h, pk_cpy_out (Or.inl h), hf j (by omega)]
    · rw [if_neg h, pk_cpy_in (by omega) (by omega), hf _ (by omega)]
      congr 1; omega

set_option maxHeartbeats 4000000 in
set_option maxRecDepth 100000 in
theorem c_AL_remove (l : Launch) (g : cG) (F : Nat → Prop) (a q i y sz : Nat) (els : List Nat) (hyi : els[i]? = some y) (hF : ∀ z, F z → z < sz) (hy9 : ∀ y, y ∈ els → F y) (hi : i < els.length) (hn : els.length ≤ 99) : CT l yJx4a65c_remove_915e3 cJx4a65c_remove_915e3 4 (some (.object "java/lang/Object")) 2 90 0 0 g F [.ref a, .int (nI i)] (fun H => H.size = sz ∧ AL g F a q els H) (fun v H => v = some (.ref y) ∧ AL g F a q (els.eraseIdx i) H) := by
  refine CT.of (by decide) rfl ?_
  intro p e s m args below meth c E hr hk hnm hP ls hl
  have hS : va_S (nF F) s.heap s.heap [] := va_S.rf
  have hx := E.1
  have hb := E.2.1
  have hml := E.2.2.1
  have hown := E.2.2.2.1
  have hts := E.2.2.2.2.1
  have hG := E.2.2.2.2.2
  have hl : lv_has ls 4 [(0, .ref a), (1, .int (nI i))] := hl
  have hP0 := hP
  obtain ⟨hsz, hL⟩ := hP
  obtain ⟨ha, ⟨md, h1⟩, hy, hA⟩ := hL
  rcases hA with ⟨rfl, -⟩ | ⟨hFq, hqa, cap, f, h2, hc1, hc0, hc2, hf⟩
  · exact absurd hi (by simp)
  refine lv_iload_n hx hb dJx4a65c_remove_915e3_0 rfl (lv_at hl 1 rfl) ?_
  refine lv_aload_n hx hb dJx4a65c_remove_915e3_1 rfl (lv_at hl 0 rfl) ?_
  refine al_len E h1 dJx4a65c_remove_915e3_2 ?_
  refine ct_S E hS (c_J15_check l g F i els.length (fun H => va_at g.1 vwCl (a, alO md q els.length) H ∧ va_at g.1 vwCl (q, alA g cap f) H ∧ H.size = sz ∧ AL g F a q els H) hi (by omega)) ok_J15_checkIndex_7cf53 lk_Jx4a65c_118 ⟨h1, h2, hP0⟩ rfl hl ⟨rfl, rfl⟩ rfl ⟨Nat.le_refl _, Nat.le_refl _⟩ dJx4a65c_remove_915e3_5 rfl (fun v9 H locs hv9 hS hz9 => ?_)
  obtain ⟨rfl, h1, h2, hP⟩ := hv9
  refine lv_pop hx hb dJx4a65c_remove_915e3_8 rfl ?_
  refine lv_aload_n hx hb dJx4a65c_remove_915e3_9 rfl (lv_at hl 0 rfl) ?_
  refine al_arr E h1 dJx4a65c_remove_915e3_10 ?_
  refine lv_astore_n (lv' := [(2, .ref q), (0, .ref a), (1, .int (nI i))]) hx hb dJx4a65c_remove_915e3_13 rfl hl (by decide) rfl (fun ls hl => ?_)
  refine lv_aload_n hx hb dJx4a65c_remove_915e3_14 rfl (lv_at hl 0 rfl) ?_
  refine lv_iload_n hx hb dJx4a65c_remove_915e3_15 rfl (lv_at hl 2 rfl) ?_
  refine va_aldq hx hb hG.1 (va_P1 h2) 0 3 rfl rfl (vp_in_nI (N := cap) (by omega) (by omega)) dJx4a65c_remove_915e3_16 ?_
  rw [nI_clamp (by omega), hf i hi, hyi]
  refine lv_astore_n (x := y) (lv' := [(3, .ref y), (2, .ref q), (0, .ref a), (1, .int (nI i))]) hx hb dJx4a65c_remove_915e3_17 rfl hl (by decide) rfl (fun ls hl => ?_)
  refine lv_aload_n hx hb dJx4a65c_remove_915e3_18 rfl (lv_at hl 2 rfl) ?_
  refine lv_aload_n hx hb dJx4a65c_remove_915e3_19 rfl (lv_at hl 1 rfl) ?_
  refine lv_iload_n hx hb dJx4a65c_remove_915e3_20 rfl (lv_at hl 3 rfl) ?_
  refine ct_V E hS (c_AL_fastRemove l g F a q i sz els hF hy9 hi hn) ok_Jx4a65c_fastRemove_b59b0 lk_Jx4a65c_144 hP (va_recv (q := (RJx4a65c, TJx4a65c, 3)) (q0 := 0) (ci := 2) hG.1 (va_P1 h1) rfl rfl) rfl hl ⟨rfl, rfl⟩ rfl ⟨Nat.le_refl _, Nat.le_refl _⟩ dJx4a65c_remove_915e3_21 rfl (fun v9 H locs hv9 hS hz9 => ?_)
  obtain ⟨rfl, hv9⟩ := hv9
  refine lv_aload_n hx hb dJx4a65c_remove_915e3_24 rfl (lv_at hl 0 rfl) ?_
  exact ct_aret (v := .ref y) E hr (Or.inl ⟨_, rfl⟩) (Or.inr ⟨_, rfl⟩) hk hS ⟨rfl, hv9⟩ dJx4a65c_remove_915e3_25

set_option maxHeartbeats 4000000 in
set_option maxRecDepth 100000 in
theorem c_AC_init (l : Launch) (g : cG) (F : Nat → Prop) (a : Nat) (P : Heap → Prop) : CT l yJxa1e45_init_da8c8 cJxa1e45_init_da8c8 1 none 1 12 0 0 g F [.ref a] P (fun v H => v = none ∧ P H) := by
  refine CT.of (by decide) rfl ?_
  intro p e s m args below meth c E hr hk hnm hP ls hl
  have hS : va_S (nF F) s.heap s.heap [] := va_S.rf
  have hx := E.1
  have hb := E.2.1
  have hml := E.2.2.1
  have hown := E.2.2.2.1
  have hts := E.2.2.2.2.1
  have hG := E.2.2.2.2.2
  have hl : lv_has ls 1 [(0, .ref a)] := hl
  refine lv_aload_n hx hb dJxa1e45_init_da8c8_0 rfl (lv_at hl 0 rfl) ?_
  refine W.objInit hx hb hown (hts _ lk_Jxa1e45_1) (hts _ im_obj) (hts _ cd_obj) rfl (by rw [hml]; exact hl.1) rfl dJxa1e45_init_da8c8_1 (Nat.le_of_ble_eq_true rfl) (Nat.le_of_ble_eq_true rfl) ?_
  refine W.eq (g2 := F0 m 4 ls []) rfl ?_
  exact ct_vret E hr hk hS ⟨rfl, hP⟩ dJxa1e45_init_da8c8_4

set_option maxHeartbeats 4000000 in
set_option maxRecDepth 100000 in
theorem c_AbsL_init (l : Launch) (g : cG) (F : Nat → Prop) (a : Nat) (ha : ¬ F a) : CT l yJxc12de_init_da8c8 cJxc12de_init_da8c8 1 none 2 32 0 0 g F [.ref a] (fun H => va_at g.1 vwCl (a, .inr (2, [.int 0, .null, .int 0])) H) (fun v H => v = none ∧ va_at g.1 vwCl (a, .inr (2, [.int 0, .null, .int 0])) H) := by
  refine CT.of (by decide) rfl ?_
  intro p e s m args below meth c E hr hk hnm hP ls hl
  have hS : va_S (nF F) s.heap s.heap [] := va_S.rf
  have hx := E.1
  have hb := E.2.1
  have hml := E.2.2.1
  have hown := E.2.2.2.1
  have hts := E.2.2.2.2.1
  have hG := E.2.2.2.2.2
  have hl : lv_has ls 1 [(0, .ref a)] := hl
  refine lv_aload_n hx hb dJxc12de_init_da8c8_0 rfl (lv_at hl 0 rfl) ?_
  refine ct_I E hS (c_AC_init l g F a (fun H => va_at g.1 vwCl (a, .inr (2, [.int 0, .null, .int 0])) H)) ok_Jxa1e45_init_da8c8 lk_Jxc12de_1 hP rfl hl ⟨rfl, rfl⟩ rfl ⟨Nat.le_refl _, Nat.le_refl _⟩ dJxc12de_init_da8c8_1 rfl (fun v9 H locs hv9 hS hz9 => ?_)
  obtain ⟨rfl, hP⟩ := hv9
  refine lv_aload_n hx hb dJxc12de_init_da8c8_4 rfl (lv_at hl 0 rfl) ?_
  refine lv_iconst (v := 0) hx hb dJxc12de_init_da8c8_5 (by decide) ?_
  refine w_putS E (C := RJx4a65c) (T := TJx4a65c) (N := 3) (ci := 2) ly_Jx4a65c tyJx4a65c tyJx4a65c_ok nmJx4a65c hS hP ha rfl 0 (by decide) (fun _ h9 => h9) fk_Jxc12de_7 rfl rfl rfl (by decide : 0 < 3) dJxc12de_init_da8c8_6 (fun H1 locs1 h1 z1 oq1 hS => ?_)
  exact ct_vret E hr hk hS ⟨rfl, h1⟩ dJxc12de_init_da8c8_9

set_option maxHeartbeats 4000000 in
set_option maxRecDepth 100000 in
theorem c_AL_init (l : Launch) (g : cG) (F : Nat → Prop) (a : Nat) (ha : ¬ F a) : CT l yJx4a65c_init_da8c8 cJx4a65c_init_da8c8 1 none 3 55 0 0 g F [.ref a] (fun H => va_at g.1 vwCl (a, .inr (2, [.int 0, .null, .int 0])) H) (fun v H => v = none ∧ AL g F a g.2.2.1 [] H) := by
  refine CT.of (by decide) rfl ?_
  intro p e s m args below meth c E hr hk hnm hP ls hl
  have hS : va_S (nF F) s.heap s.heap [] := va_S.rf
  have hx := E.1
  have hb := E.2.1
  have hml := E.2.2.1
  have hown := E.2.2.2.1
  have hts := E.2.2.2.2.1
  have hG := E.2.2.2.2.2
  have hl : lv_has ls 1 [(0, .ref a)] := hl
  refine lv_aload_n hx hb dJx4a65c_init_da8c8_0 rfl (lv_at hl 0 rfl) ?_
  refine ct_I E hS (c_AbsL_init l g F a ha) ok_Jxc12de_init_da8c8 lk_Jx4a65c_1 hP rfl hl ⟨rfl, rfl⟩ rfl ⟨Nat.le_refl _, Nat.le_refl _⟩ dJx4a65c_init_da8c8_1 rfl (fun v9 H locs hv9 hS hz9 => ?_)
  obtain ⟨rfl, hP⟩ := hv9
  refine lv_aload_n hx hb dJx4a65c_init_da8c8_4 rfl (lv_at hl 0 rfl) ?_
  refine va_gets hx hb hG.2.2.1 hS hown (hts _ fk_Jx4a65c_39) (fun _ h9 => h9) dJx4a65c_init_da8c8_5 ?_
  refine w_put E (C := RJx4a65c) (T := TJx4a65c) (N := 3) (ci := 2) ly_Jx4a65c tyJx4a65c tyJx4a65c_ok nmJx4a65c hS hP ha rfl 1 (by decide) rfl fk_Jx4a65c_9 rfl rfl rfl (by decide : 1 < 3) dJx4a65c_init_da8c8_8 (fun H1 locs1 h1 z1 oq1 hS => ?_)
  exact ct_vret E hr hk hS ⟨rfl, ha, ⟨0, h1⟩, fun y hy => by simp at hy, Or.inl ⟨rfl, rfl⟩⟩ dJx4a65c_init_da8c8_11
end
section
/-! the desk's picture: its cells' names are A kind place; kinds: 0 the desk, 1 its arrays of numbers, 2 its lists, 3 their arrays, 4 badges, 5 lifts, 6 riders, 7 entries -/
def dN (nb nl nr ne : Nat) (k : Nat) : Nat := match k with
  | 0 => 1
  | 1 => 3
  | 2 => 5
  | 3 => 5
  | 4 => nb
  | 5 => nl
  | 6 => nr
  | 7 => ne
  | _ => 0
def lref (A : Nat → Nat → Nat) (x : Int32) : Option Nat := if x < 0 then none else some (A 5 x.toNatClampNeg)
def dO (A : Nat → Nat → Nat) (t : TT) (k i : Nat) : Nat × List Value := match k with
  | 0 => (7, [.ref (A 1 0), .ref (A 1 1), .ref (A 1 2), .ref (A 2 0), .ref (A 2 1), .ref (A 2 2), .ref (A 2 3), .ref (A 2 4), .int (t 23 i), .int (t 60 i), .int (t 24 i), .int (t 25 i)])
  | 4 => (3, [.int (t 4 i), .int (t 5 i)])
  | 5 => (5, [.int (nI i), .int (t 17 i), .int (t 18 i), .int (t 21 i), .int (t 20 i), .int (t 19 i)])
  | 6 => (6, [.int (nI i), .ref (A 4 (t 7 i).toNatClampNeg), .int (t 8 i), .int (t 9 i), .int (t 13 i), va_rf (lref A (t 10 i)), .int (t 40 i)])
  | _ => (4, [.int (t 50 i), .int (t 51 i), .int (t 52 i)])
/-- a row's kind -/
def dK (row : Nat) : Nat := match row with
  | 1 => 1 | 2 => 1 | 3 => 1 | 4 => 4 | 5 => 4 | 7 => 6 | 8 => 6 | 9 => 6 | 10 => 6 | 13 => 6 | 40 => 6
  | 17 => 5 | 18 => 5 | 19 => 5 | 20 => 5 | 21 => 5 | 23 => 0 | 60 => 0 | 24 => 0 | 25 => 0 | 50 => 7 | 51 => 7 | 52 => 7 | _ => 9
abbrev kOb (k : Nat) : Prop := k = 0 ∨ 4 ≤ k ∧ k ≤ 7
theorem kOb_c {k : Nat} (h : kOb k) : k = 0 ∨ k = 4 ∨ k = 5 ∨ k = 6 ∨ k = 7 := by unfold kOb at h; omega
theorem dO_tu {A : Nat → Nat → Nat} {t : TT} {row i k2 i2 : Nat} {v : Int32} (h : ¬ (k2 = dK row ∧ i2 = i)) (hk : kOb k2) : dO A (tu t row i v) k2 i2 = dO A t k2 i2 := by
  have rd : ∀ r2, dK r2 = k2 → tu t row i v r2 i2 = t r2 i2 := fun r2 hr => by
    unfold tu
    rw [if_neg]
    rintro ⟨rfl, rfl⟩
    exact h ⟨hr.symm, rfl⟩
  rcases kOb_c hk with rfl | rfl | rfl | rfl | rfl
  · simp only [dO, rd 23 rfl, rd 60 rfl, rd 24 rfl, rd 25 rfl]
  · simp only [dO, rd 4 rfl, rd 5 rfl]
  · simp only [dO, rd 17 rfl, rd 18 rfl, rd 19 rfl, rd 20 rfl, rd 21 rfl]
  · simp only [dO, rd 7 rfl, rd 8 rfl, rd 9 rfl, rd 10 rfl, rd 13 rfl, rd 40 rfl]
  · simp only [dO, rd 50 rfl, rd 51 rfl, rd 52 rfl]
theorem dO_cg {A B : Nat → Nat → Nat} {t : TT} (h1 : B 1 = A 1) (h2 : B 2 = A 2) (h4 : B 4 = A 4) (h5 : B 5 = A 5) (k i : Nat) : dO B t k i = dO A t k i := by
  unfold dO lref
  simp only [h1, h2, h4, h5]
def dEl (A : Nat → Nat → Nat) (nb nl nr ne : Nat) (pr : List Nat) (j : Nat) : List Nat := match j with
  | 0 => (List.range nb).map (A 4)
  | 1 => (List.range nl).map (A 5)
  | 2 => (List.range nr).map (A 6)
  | 3 => pr.map (A 6)
  | _ => (List.range ne).map (A 7)
theorem dEl_mem {A : Nat → Nat → Nat} {nb nl nr ne j y : Nat} {pr : List Nat} (hp : ∀ r, r ∈ pr → r < nr) (hy : y ∈ dEl A nb nl nr ne pr j) : ∃ k i, (4 ≤ k ∧ k ≤ 7) ∧ i < dN nb nl nr ne k ∧ y = A k i := by
  have key : ∀ (n k : Nat), 4 ≤ k → k ≤ 7 → n = dN nb nl nr ne k → y ∈ (List.range n).map (A k) → ∃ k i, (4 ≤ k ∧ k ≤ 7) ∧ i < dN nb nl nr ne k ∧ y = A k i := by
    intro n k h1 h2 hn h
    obtain ⟨i, hi, rfl⟩ := List.mem_map.mp h
    exact ⟨k, i, ⟨h1, h2⟩, by rw [← hn]; exact List.mem_range.mp hi, rfl⟩
  unfold dEl at hy
  split at hy
  · exact key nb 4 (by decide) (by decide) rfl hy
  · exact key nl 5 (by decide) (by decide) rfl hy
  · exact key nr 6 (by decide) (by decide) rfl hy
  · obtain ⟨i, hi, rfl⟩ := List.mem_map.mp hy
    exact ⟨6, i, ⟨by decide, by decide⟩, hp i hi, rfl⟩
  · exact key ne 7 (by decide) (by decide) rfl hy
theorem dEl_cg {A B : Nat → Nat → Nat} {nb nl nr ne : Nat} {pr : List Nat} (h4 : B 4 = A 4) (h5 : B 5 = A 5) (h6 : B 6 = A 6) {j : Nat} (hj : j < 4) : dEl B nb nl nr ne pr j = dEl A nb nl nr ne pr j := by
  match j, hj with
  | 0, _ => simp only [dEl, h4]
  | 1, _ => simp only [dEl, h5]
  | 2, _ => simp only [dEl, h6]
  | 3, _ => simp only [dEl, h6]
  | j + 4, h => exact absurd h (by omega)
/-- what the numbers keep to -/
def DI (nb nl nr ne : Nat) (pr : List Nat) (t : TT) : Prop :=
  (nb ≤ 8 ∧ nl ≤ 3 ∧ nr ≤ 30 ∧ ne ≤ 99 ∧ pr.length ≤ 30) ∧ (∀ r, r ∈ pr → r < nr) ∧
  (∀ i, i < nr → t 10 i = -1 ∨ ∃ q, q < nl ∧ t 10 i = nI q) ∧ (∀ i, i < nr → ∃ b, b < nb ∧ t 7 i = nI b) ∧
  (∀ i, i < nr → narrow .char (.int (t 13 i)) = .int (t 13 i)) ∧ (∀ i, i < nl → narrow .char (.int (t 20 i)) = .int (t 20 i)) ∧
  (∀ i, i < nl → narrow .boolean (.int (t 21 i)) = .int (t 21 i)) ∧ (∀ i, i < nb → narrow .boolean (.int (t 5 i)) = .int (t 5 i))
def PDc (g : cG) (F : Nat → Prop) (B : Nat → Nat → Nat) (nm : Nat → Nat × Nat) (nb nl nr ne : Nat) (pr : List Nat) (t : TT) (H : Heap) : Prop :=
  (∀ k i, i < dN nb nl nr ne k → k ≠ 3 → nm (B k i) = (k, i) ∧ ¬ F (B k i)) ∧
  (∀ k i, i < dN nb nl nr ne k → kOb k → va_at g.1 vwCl (B k i, .inr (dO B t k i)) H) ∧
  (∀ j, j < 3 → va_at g.1 vwCl (B 1 j, .inl (g.2.1 0, 10, .inl (t (j + 1)))) H) ∧
  (∀ j, j < 5 → (B 3 j ≠ g.2.2.1 → nm (B 3 j) = (3, j)) ∧ AL g F (B 2 j) (B 3 j) (dEl B nb nl nr ne pr j) H) ∧
  F g.2.2.1 ∧ (∀ q, F q → q < H.size) ∧ DI nb nl nr ne pr t
def PD (g : cG) (F : Nat → Prop) (A : Nat → Nat → Nat) (nb nl nr ne : Nat) (pr : List Nat) (t : TT) (H : Heap) : Prop :=
  ∃ (B : Nat → Nat → Nat) (nm : Nat → Nat × Nat), (∀ k, k ≠ 3 → k ≠ 7 → B k = A k) ∧ PDc g F B nm nb nl nr ne pr t H
theorem AL.kept {g : cG} {F : Nat → Prop} {a q : Nat} {els : List Nat} {H H1 : Heap} (h : AL g F a q els H) (ha : H1[a]? = H[a]?) (hq : ¬ F q → H1[q]? = H[q]?) (he : ∀ y ∈ els, AO g y H1) : AL g F a q els H1 := by
  obtain ⟨h1, ⟨md, h2⟩, h3, h4⟩ := h
  refine ⟨h1, ⟨md, h2.kept ha⟩, he, ?_⟩
  rcases h4 with h4 | ⟨h5, h6, cap, f, h7, h8⟩
  · exact Or.inl h4
  · exact Or.inr ⟨h5, h6, cap, f, h7.kept (hq h5), h8⟩
theorem dO_ci {A : Nat → Nat → Nat} {t : TT} {k i : Nat} (h1 : 4 ≤ k) (h2 : k ≤ 7) : (dO A t k i).1 = 3 ∨ (dO A t k i).1 = 4 ∨ (dO A t k i).1 = 5 ∨ (dO A t k i).1 = 6 := by
  obtain rfl | rfl | rfl | rfl : k = 4 ∨ k = 5 ∨ k = 6 ∨ k = 7 := by omega
  · exact Or.inl rfl
  · exact Or.inr (Or.inr (Or.inl rfl))
  · exact Or.inr (Or.inr (Or.inr rfl))
  · exact Or.inr (Or.inl rfl)
theorem dAO {g : cG} {A : Nat → Nat → Nat} {t : TT} {k i : Nat} {H : Heap} (h1 : 4 ≤ k) (h2 : k ≤ 7) (h : va_at g.1 vwCl (A k i, .inr (dO A t k i)) H) : AO g (A k i) H := ⟨(dO A t k i).1, (dO A t k i).2, dO_ci h1 h2, h⟩
section PDL
variable {g : cG} {F : Nat → Prop} {A B : Nat → Nat → Nat} {nm : Nat → Nat × Nat} {nb nl nr ne : Nat} {pr : List Nat} {t t2 : TT} {H H1 : Heap}
theorem PDc.ap (h : PDc g F B nm nb nl nr ne pr t H) {k i k2 i2 : Nat} (hk : k ≠ 3) (hi : i < dN nb nl nr ne k) (hk2 : k2 ≠ 3) (hi2 : i2 < dN nb nl nr ne k2) (hn : ¬ (k2 = k ∧ i2 = i)) : B k2 i2 ≠ B k i := fun e => by
  have x := (h.1 k2 i2 hi2 hk2).1
  rw [e, (h.1 k i hi hk).1] at x
  have y := Prod.mk.inj x
  exact hn ⟨y.1.symm, y.2.symm⟩
theorem PDc.ap3 (h : PDc g F B nm nb nl nr ne pr t H) {k i j : Nat} (hk : k ≠ 3) (hi : i < dN nb nl nr ne k) (hj : j < 5) (hF : ¬ F (B 3 j)) : B 3 j ≠ B k i := fun e => by
  have x := (h.2.2.2.1 j hj).1 (fun z => hF (by rw [z]; exact h.2.2.2.2.1))
  rw [e, (h.1 k i hi hk).1] at x
  exact hk (Prod.mk.inj x).1
theorem PDc.ap33 (h : PDc g F B nm nb nl nr ne pr t H) {j j2 : Nat} (hj : j < 5) (hj2 : j2 < 5) (hF : ¬ F (B 3 j)) (hF2 : ¬ F (B 3 j2)) (hn : j2 ≠ j) : B 3 j2 ≠ B 3 j := fun e => by
  have x := (h.2.2.2.1 j2 hj2).1 (fun z => hF2 (by rw [z]; exact h.2.2.2.2.1))
  have y := (h.2.2.2.1 j hj).1 (fun z => hF (by rw [z]; exact h.2.2.2.2.1))
  rw [e, y] at x
  exact hn (Prod.mk.inj x).2.symm
theorem PDc.put (h : PDc g F B nm nb nl nr ne pr t H) {k i : Nat} (hi : i < dN nb nl nr ne k) (hk : kOb k) (ht : ∀ k2 i2, ¬ (k2 = k ∧ i2 = i) → kOb k2 → dO B t2 k2 i2 = dO B t k2 i2) (ha : ∀ j, j < 3 → t2 (j + 1) = t (j + 1)) (hd : DI nb nl nr ne pr t2) (hz : H.size ≤ H1.size)
    (e1 : va_at g.1 vwCl (B k i, .inr (dO B t2 k i)) H1) (oq : ∀ q, q ≠ B k i → H1[q]? = H[q]?) : PDc g F B nm nb nl nr ne pr t2 H1 := by
  have hk3 : k ≠ 3 := by unfold kOb at hk; omega
  have hob : ∀ k2 i2, i2 < dN nb nl nr ne k2 → kOb k2 → va_at g.1 vwCl (B k2 i2, .inr (dO B t2 k2 i2)) H1 := fun k2 i2 a b => by
    by_cases c : k2 = k ∧ i2 = i
    · obtain ⟨rfl, rfl⟩ := c; exact e1
    · rw [ht k2 i2 c b]
      exact (h.2.1 k2 i2 a b).kept (oq _ (h.ap hk3 hi (by unfold kOb at b; omega) a c))
  refine ⟨h.1, hob, fun j hj => ?_, fun j hj => ⟨(h.2.2.2.1 j hj).1, (h.2.2.2.1 j hj).2.kept (oq _ ?_) (fun hF => oq _ (h.ap3 hk3 hi hj hF)) (fun y hy => ?_)⟩, h.2.2.2.2.1, fun q hq => Nat.lt_of_lt_of_le (h.2.2.2.2.2.1 q hq) hz, hd⟩
  · rw [ha j hj]
    exact (h.2.2.1 j hj).kept (oq _ (h.ap hk3 hi (by decide) (by exact hj) (by unfold kOb at hk; omega)))
  · exact h.ap hk3 hi (by decide) (by exact hj) (by unfold kOb at hk; omega)
  · obtain ⟨k2, i2, a, b, rfl⟩ := dEl_mem hd.2.1 hy
    exact dAO a.1 a.2 (hob k2 i2 b (Or.inr a))
theorem PDc.aput (h : PDc g F B nm nb nl nr ne pr t H) {j i : Nat} {v : Int32} (hj : j < 3) (hz : H.size ≤ H1.size) (e1 : va_at g.1 vwCl (B 1 j, .inl (g.2.1 0, 10, .inl (upd (t (j + 1)) i v))) H1) (oq : ∀ q, q ≠ B 1 j → H1[q]? = H[q]?) : PDc g F B nm nb nl nr ne pr (tu t (j + 1) i v) H1 := by
  have hr : ∀ r, 3 < r → tu t (j + 1) i v r = t r := fun r hr => tu_r (by omega)
  have hK : ∀ k2 i2, kOb k2 → dO B (tu t (j + 1) i v) k2 i2 = dO B t k2 i2 := fun k2 i2 hk => dO_tu (fun z => by
    have : dK (j + 1) = 1 := by obtain rfl | rfl | rfl : j = 0 ∨ j = 1 ∨ j = 2 := by omega
                                all_goals rfl
    rw [this] at z
    unfold kOb at hk; omega) hk
  have hob : ∀ k2 i2, i2 < dN nb nl nr ne k2 → kOb k2 → va_at g.1 vwCl (B k2 i2, .inr (dO B (tu t (j + 1) i v) k2 i2)) H1 := fun k2 i2 a b => by
    rw [hK k2 i2 b]
    exact (h.2.1 k2 i2 a b).kept (oq _ (h.ap (by decide) (by exact hj) (by unfold kOb at b; omega) a (by unfold kOb at b; omega)))
  refine ⟨h.1, hob, fun j2 hj2 => ?_, fun j2 hj2 => ⟨(h.2.2.2.1 j2 hj2).1, (h.2.2.2.1 j2 hj2).2.kept (oq _ ?_) (fun hF => oq _ (h.ap3 (by decide) (by exact hj) hj2 hF)) (fun y hy => ?_)⟩, h.2.2.2.2.1, fun q hq => Nat.lt_of_lt_of_le (h.2.2.2.2.2.1 q hq) hz, ?_⟩
  · by_cases c : j2 = j
    · subst c; rw [tu_u]; exact e1
    · rw [tu_r (by omega)]
      exact (h.2.2.1 j2 hj2).kept (oq _ (h.ap (by decide) (by exact hj) (by decide) (by exact hj2) (by omega)))
  · exact h.ap (by decide) (by exact hj) (by decide) (by exact hj2) (by omega)
  · obtain ⟨k2, i2, a, b, rfl⟩ := dEl_mem h.2.2.2.2.2.2.2.1 hy
    exact dAO a.1 a.2 (hob k2 i2 b (Or.inr a))
  · obtain ⟨d1, d2, d3, d4, d5, d6, d7, d8⟩ := h.2.2.2.2.2.2
    exact ⟨d1, d2, by rw [hr 10 (by omega)]; exact d3, by rw [hr 7 (by omega)]; exact d4, by rw [hr 13 (by omega)]; exact d5, by rw [hr 20 (by omega)]; exact d6, by rw [hr 21 (by omega)]; exact d7, by rw [hr 5 (by omega)]; exact d8⟩
theorem PD.di (h : PD g F A nb nl nr ne pr t H) : DI nb nl nr ne pr t := by
  obtain ⟨B, nm, hB, hc⟩ := h
  exact hc.2.2.2.2.2.2
theorem PD.ob (h : PD g F A nb nl nr ne pr t H) {k i : Nat} (hi : i < dN nb nl nr ne k) (hk : kOb k) (h7 : k ≠ 7) : va_at g.1 vwCl (A k i, .inr (dO A t k i)) H ∧ ¬ F (A k i) := by
  obtain ⟨B, nm, hB, hc⟩ := h
  have hk3 : k ≠ 3 := by unfold kOb at hk; omega
  rw [← hB k hk3 h7, ← dO_cg (hB 1 (by decide) (by decide)) (hB 2 (by decide) (by decide)) (hB 4 (by decide) (by decide)) (hB 5 (by decide) (by decide))]
  exact ⟨hc.2.1 k i hi hk, (hc.1 k i hi hk3).2⟩
theorem PD.arr (h : PD g F A nb nl nr ne pr t H) {j : Nat} (hj : j < 3) : va_at g.1 vwCl (A 1 j, .inl (g.2.1 0, 10, .inl (t (j + 1)))) H ∧ ¬ F (A 1 j) := by
  obtain ⟨B, nm, hB, hc⟩ := h
  rw [← hB 1 (by decide) (by decide)]
  exact ⟨hc.2.2.1 j hj, (hc.1 1 j (by exact hj) (by decide)).2⟩
theorem PD.al (h : PD g F A nb nl nr ne pr t H) {j : Nat} (hj : j < 4) : ∃ q, AL g F (A 2 j) q (dEl A nb nl nr ne pr j) H := by
  obtain ⟨B, nm, hB, hc⟩ := h
  refine ⟨B 3 j, ?_⟩
  rw [← hB 2 (by decide) (by decide), ← dEl_cg (hB 4 (by decide) (by decide)) (hB 5 (by decide) (by decide)) (hB 6 (by decide) (by decide)) hj]
  exact (hc.2.2.2.1 j (by omega)).2
/-- a list's length -/
def dLn (nb nl nr ne : Nat) (pr : List Nat) (j : Nat) : Nat := match j with
  | 0 => nb
  | 1 => nl
  | 2 => nr
  | 3 => pr.length
  | _ => ne
theorem dEl_len (j : Nat) : (dEl A nb nl nr ne pr j).length = dLn nb nl nr ne pr j := by
  unfold dEl dLn
  split <;> simp
theorem PD.alo (h : PD g F A nb nl nr ne pr t H) {j : Nat} (hj : j < 5) : ∃ md q, va_at g.1 vwCl (A 2 j, alO md q (dLn nb nl nr ne pr j)) H := by
  obtain ⟨B, nm, hB, hc⟩ := h
  obtain ⟨md, h1⟩ := (hc.2.2.2.1 j hj).2.2.1
  rw [← hB 2 (by decide) (by decide)]
  rw [dEl_len] at h1
  exact ⟨md, _, h1⟩
theorem PD.inj (h : PD g F A nb nl nr ne pr t H) {k i i2 : Nat} (hk : k ≠ 3) (h7 : k ≠ 7) (hi : i < dN nb nl nr ne k) (hi2 : i2 < dN nb nl nr ne k) (he : A k i = A k i2) : i = i2 := by
  obtain ⟨B, nm, hB, hc⟩ := h
  rw [← hB k hk h7] at he
  exact Decidable.byContradiction (fun c => hc.ap hk hi2 hk hi (fun z => c z.2) he)
theorem PD.put (h : PD g F A nb nl nr ne pr t H) {k i row : Nat} {x : Int32} (hi : i < dN nb nl nr ne k) (hk : kOb k) (h7 : k ≠ 7) (hr : dK row = k) (hd : DI nb nl nr ne pr (tu t row i x)) (hz : H.size ≤ H1.size)
    (e1 : va_at g.1 vwCl (A k i, .inr (dO A (tu t row i x) k i)) H1) (oq : ∀ q, q ≠ A k i → H1[q]? = H[q]?) : PD g F A nb nl nr ne pr (tu t row i x) H1 := by
  obtain ⟨B, nm, hB, hc⟩ := h
  have hk3 : k ≠ 3 := by unfold kOb at hk; omega
  rw [← hB k hk3 h7] at oq
  rw [← hB k hk3 h7, ← dO_cg (hB 1 (by decide) (by decide)) (hB 2 (by decide) (by decide)) (hB 4 (by decide) (by decide)) (hB 5 (by decide) (by decide))] at e1
  refine ⟨B, nm, hB, hc.put hi hk (fun k2 i2 c b => dO_tu (by rw [hr]; exact c) b) (fun j hj => tu_r (fun z => ?_)) hd hz e1 oq⟩
  subst hr
  rw [← z] at hk
  obtain rfl | rfl | rfl : j = 0 ∨ j = 1 ∨ j = 2 := by omega
  all_goals exact absurd hk (by decide)
theorem PD.putg (h : PD g F A nb nl nr ne pr t H) {k i : Nat} (hi : i < dN nb nl nr ne k) (hk : kOb k) (h7 : k ≠ 7) (ht : ∀ (C : Nat → Nat → Nat) k2 i2, ¬ (k2 = k ∧ i2 = i) → kOb k2 → dO C t2 k2 i2 = dO C t k2 i2) (ha : ∀ j, j < 3 → t2 (j + 1) = t (j + 1)) (hd : DI nb nl nr ne pr t2) (hz : H.size ≤ H1.size)
    (e1 : va_at g.1 vwCl (A k i, .inr (dO A t2 k i)) H1) (oq : ∀ q, q ≠ A k i → H1[q]? = H[q]?) : PD g F A nb nl nr ne pr t2 H1 := by
  obtain ⟨B, nm, hB, hc⟩ := h
  have hk3 : k ≠ 3 := by unfold kOb at hk; omega
  rw [← hB k hk3 h7] at oq
  rw [← hB k hk3 h7, ← dO_cg (hB 1 (by decide) (by decide)) (hB 2 (by decide) (by decide)) (hB 4 (by decide) (by decide)) (hB 5 (by decide) (by decide))] at e1
  exact ⟨B, nm, hB, hc.put hi hk (fun k2 i2 c b => ht B k2 i2 c b) ha hd hz e1 oq⟩
theorem PD.fs (h : PD g F A nb nl nr ne pr t H) : ∀ q, F q → q < H.size := by
  obtain ⟨B, nm, hB, hc⟩ := h
  exact hc.2.2.2.2.2.1
theorem PD.aput (h : PD g F A nb nl nr ne pr t H) {j i : Nat} {v : Int32} (hj : j < 3) (hz : H.size ≤ H1.size) (e1 : va_at g.1 vwCl (A 1 j, .inl (g.2.1 0, 10, .inl (upd (t (j + 1)) i v))) H1) (oq : ∀ q, q ≠ A 1 j → H1[q]? = H[q]?) : PD g F A nb nl nr ne pr (tu t (j + 1) i v) H1 := by
  obtain ⟨B, nm, hB, hc⟩ := h
  rw [← hB 1 (by decide) (by decide)] at e1 oq
  exact ⟨B, nm, hB, hc.aput hj hz e1 oq⟩
theorem lref_iff (h : PD g F A nb nl nr ne pr t H) {i q : Nat} (hi : i < nr) (hq : q < nl) : lref A (t 10 i) = some (A 5 q) ↔ t 10 i = nI q := by
  have hl := h.di.1.2.1
  rcases h.di.2.2.1 i hi with e | ⟨q2, hq2, e⟩
  · rw [e]
    constructor
    · intro z; exact absurd z (by rw [lref, if_pos (by decide)]; intro z; cases z)
    · intro z
      exact absurd z (fun z9 => absurd (show nI q < 0 by rw [← z9]; decide) (nI_pos (by omega)))
  · rw [e, lref, if_neg (nI_pos (by omega)), nI_clamp (by omega)]
    constructor
    · intro z
      have z2 := h.inj (k := 5) (by decide) (by decide) (by exact hq2) (by exact hq) (Option.some.inj z)
      rw [z2]
    · intro z
      rw [(nI_eq (by omega) (by omega)).mp z]
end PDL
end
section
/-! rows of the desk's walks -/
def KC (C : String) (T : u_T) (N ci : Nat) (ty0 : Nat → FieldType) : Prop :=
  (∀ w ∈ u_ws C T N, w ∈ lw_g) ∧ (∀ k, k < N → parseFieldDescriptor (T k).2.2.1 = some (ty0 k)) ∧ (∀ a, a < N → ∀ b, b < N → a ≠ b → (T a).2.1 ≠ (T b).2.1) ∧ vwCl[ci]? = some (C, T, N)
theorem kcX0 : KC RX0 TX0 2 3 tyX0 := ⟨ly_X0, tyX0_ok, nmX0, rfl⟩
theorem kcX1 : KC RX1 TX1 3 4 tyX1 := ⟨ly_X1, tyX1_ok, nmX1, rfl⟩
theorem kcX2 : KC RX2 TX2 6 5 tyX2 := ⟨ly_X2, tyX2_ok, nmX2, rfl⟩
theorem kcX3 : KC RX3 TX3 7 6 tyX3 := ⟨ly_X3, tyX3_ok, nmX3, rfl⟩
theorem kcX4 : KC RX4 TX4 12 7 tyX4 := ⟨ly_X4, tyX4_ok, nmX4, rfl⟩
theorem nar_rf {n : String} {o : Option Nat} : narrow (.object n) (va_rf o) = va_rf o := by cases o <;> rfl
theorem fit_rf {n : String} {o : Option Nat} : fits (.object n) (va_rf o) = true := by cases o <;> rfl
section NR
variable {p : Program} {l : Launch} {e : Env} {R : Room} {s : State} {m : MethodId} {args : Array Value} {below : List Frame} {meth : Method} {c : Code} {H : Heap} {locs : List Loc} {cells slots : Nat} {Q : State → Prop}
variable {cc : ByteArray} {pc nL : Nat} {ls : Array Slot} {rest : List Value} {own : String} {g : cG} {F F1 : Nat → Prop} {H0 : Heap} {a : Nat}
theorem w_getN (E : EN p s m c cc nL args own g F) {C host : String} {T : u_T} {N ci index : Nat} {ty0 : Nat → FieldType} (kc : KC C T N ci ty0) {fs : List Value} (he : va_at g.1 vwCl (a, .inr (ci, fs)) H) (k : Nat) (hk : k < N) (hT : (T k).1 = C) (hlink : Cond.fieldLinkNest own index C (T k).2.1 (T k).2.2.1 host ∈ lw_n) {v : Value} (hv : fs[k]? = some v) (hdg : decode cc pc = .ok (.getfield index, 3))
    (kk : W p l e R s m args below meth c H locs cells slots Q (F0 m (pc + 3) ls (v :: rest))) : W p l e R s m args below meth c H locs cells slots Q (F0 m pc ls (.ref a :: rest)) :=
  va_getN (ref := C) E.1 E.2.1 E.2.2.2.2.1 kc.1 E.2.2.2.1 E.2.2.2.2.2.1 (va_P1 he) 0 rfl kc.2.2.2 k hk (va_Nw.use rfl (E.2.2.2.2.2.2.1 _ hlink)) (fun x h => by rw [hT] at h; exact h) hv hdg kk
theorem w_putN (E : EN p s m c cc nL args own g F) {C host : String} {T : u_T} {N ci index : Nat} {ty0 : Nat → FieldType} (kc : KC C T N ci ty0) (hS0 : va_S (nF F) H0 H locs) {fs : List Value} (he : va_at g.1 vwCl (a, .inr (ci, fs)) H) (ha : ¬ F a) (k : Nat) (hk : k < N) (hT : (T k).1 = C) (hlink : Cond.fieldLinkNest own index C (T k).2.1 (T k).2.2.1 host ∈ lw_n) (hfin : (T k).2.2.2 = false) {v : Value} (hn : narrow (ty0 k) v = v) (hfit : fits (ty0 k) v = true) (hl : k < fs.length)
    (hdg : decode cc pc = .ok (.putfield index, 3)) (kk : ∀ (H1 : Heap) (locs1 : List Loc), va_at g.1 vwCl (a, .inr (ci, fs.set k v)) H1 → H1.size = H.size → (∀ q, q ≠ a → H1[q]? = H[q]?) → va_S (nF F) H0 H1 locs1 → W p l e R s m args below meth c H1 locs1 cells slots Q (F0 m (pc + 3) ls rest)) : W p l e R s m args below meth c H locs cells slots Q (F0 m pc ls (v :: .ref a :: rest)) := by
  obtain ⟨hin, hty, hnm, hc⟩ := kc
  obtain ⟨hexec, hb, -, hown, hts, hK, hN, -⟩ := E
  have hap := va_apart (own := own) hts hin ty0 hty hnm hK hc
  obtain ⟨r, h1, cell, q1, q2, q3, q4⟩ := he
  have hr : r = (C, T, N) := Option.some.inj (h1.symm.trans hc)
  subst hr
  obtain ⟨hS, hfc, kC, hkC, hkind⟩ := hK.1 ci _ hc
  obtain ⟨cf, kf, fi, f, hi, hsl⟩ := hS k hk
  have hlay := hts _ (hin _ (u_in_lay hk))
  unfold u_lay at hlay
  rw [if_neg (by rw [hfin]; decide)] at hlay
  have hst := (u_facts hfc hkC (u_lays hts hin hk) hi).1
  have h6 := u_store hfc hkC hkind hlay hi (hty k hk) hn hfit
  rw [hT] at hi
  refine va_WputK hexec hb (f := f) hown (va_Nw.use rfl (hN _ hlink)) hi hst (by rw [q2]; exact h6) q1 q3 (by rw [hsl]; exact k2_hasslot (q4 k hk)) rfl rfl hdg fun H' e1 e2 e3 => ?_
  rw [hsl] at e1 ⊢
  exact kk H' _ ⟨_, hc, t_OB.to (V := updV (vp_V fs) k v) ⟨_, e1, q2, q3, t_set q4 hap hk v⟩ (fun j _ => vp_updV_set hl v j)⟩ e2 e3 (hS0.put e2 e3 ha)
theorem w_putF (E : EN p s m c cc nL args own g F) {T : u_T} {N ci index : Nat} {ty0 : Nat → FieldType} (kc : KC own T N ci ty0) (hinit : meth.name = "<init>") (hS0 : va_S (nF F) H0 H locs) {fs : List Value} (he : va_at g.1 vwCl (a, .inr (ci, fs)) H) (ha : ¬ F a) (k : Nat) (hk : k < N) (hT : (T k).1 = own) (hlink : Cond.fieldLink own index own (T k).2.1 (T k).2.2.1 ∈ lw_g) (hfin : (T k).2.2.2 = true) {v : Value} (hn : narrow (ty0 k) v = v) (hfit : fits (ty0 k) v = true) (hl : k < fs.length)
    (hdg : decode cc pc = .ok (.putfield index, 3)) (kk : ∀ (H1 : Heap) (locs1 : List Loc), va_at g.1 vwCl (a, .inr (ci, fs.set k v)) H1 → H1.size = H.size → (∀ q, q ≠ a → H1[q]? = H[q]?) → va_S (nF F) H0 H1 locs1 → W p l e R s m args below meth c H1 locs1 cells slots Q (F0 m (pc + 3) ls rest)) : W p l e R s m args below meth c H locs cells slots Q (F0 m pc ls (v :: .ref a :: rest)) := by
  obtain ⟨hin, hty, hnm, hc⟩ := kc
  obtain ⟨hexec, hb, -, hown, hts, hK, hN, -⟩ := E
  have hap := va_apart (own := own) hts hin ty0 hty hnm hK hc
  obtain ⟨r, h1, cell, q1, q2, q3, q4⟩ := he
  have hr : r = (own, T, N) := Option.some.inj (h1.symm.trans hc)
  subst hr
  obtain ⟨hS, hfc, kC, hkC, hkind⟩ := hK.1 ci _ hc
  obtain ⟨cf, kf, fi, f, hi, hsl⟩ := hS k hk
  have hlay := hts _ (hin _ (u_in_lay hk))
  unfold u_lay at hlay
  rw [if_pos hfin] at hlay
  have hst := (u_facts hfc hkC (u_lays hts hin hk) hi).1
  have hcf : m.cls = cf := by
    obtain ⟨_, _, c', _, _, _, -, -, hf', -, -, -, hown2, -⟩ := Cond.laysFinal_spec hlay
    have e1 : c' = cf := by have := hi.symm.trans hf'; simp at this; exact this.1.symm
    rw [hT] at hown2
    rw [← e1]; exact Option.some.inj (hown.symm.trans hown2)
  have h6 := u_fits hfc hkC hkind (Or.inr hlay) hi (hty k hk) hn hfit
  rw [hT] at hi
  refine W.putFinK hexec hb hown (hts _ hlink) hi hst hcf hinit (by rw [q2]; exact h6) q1 q3 (by rw [hsl]; exact k2_hasslot (q4 k hk)) rfl rfl hdg fun H' e1 e2 e3 => ?_
  rw [hsl] at e1 ⊢
  exact kk H' _ ⟨_, hc, t_OB.to (V := updV (vp_V fs) k v) ⟨_, e1, q2, q3, t_set q4 hap hk v⟩ (fun j _ => vp_updV_set hl v j)⟩ e2 e3 (hS0.put e2 e3 ha)
/-! calls of nest mates -/
variable {post : Option Value → Heap → Prop} {mc ms : Nat} {y : MethodName} {b : ByteArray} {n k fr lo mc1 ms1 idx o : Nat} {ret : Option FieldType} {As : List Value} {P : Heap → Prop}
theorem ct_VN (E : EN p s m c cc nL args own g F) (hS : va_S (nF F) s.heap H locs) (hM : CT l y b n ret fr lo mc1 ms1 g F (.ref o :: As) P post) (ok : okV y b n ret k) {host : String} (hlk : Cond.methodLinkNest own idx y host ∈ lw_n) (hP : P H)
    (ho : ∃ cellB : Cell, H[o]? = some cellB ∧ cellB.vm.isStatics = false ∧ s.vm.findClass y.cls = some cellB.cls) (hlen : As.length = k) {lv : List (Nat × Value)} (hls : lv_has ls nL lv) (hR : Nat.ble (fr + 1) R.frames = true ∧ Nat.ble (8 + (n + 11) + lo) R.locals = true) (hst : Nat.ble (rest.map fun v => v.category).sum 8 = true)
    (hf : cells + mc1 ≤ R.cells ∧ slots + ms1 ≤ R.slots) (hd : decode cc pc = .ok (.invokevirtual idx, 3))
    {st0 : List Value} (hst0 : st0 = As.reverse ++ .ref o :: rest)
    (kk : ∀ (v : Option Value) (H1 : Heap) (locs1 : List Loc), post v H1 → va_S (nF F) s.heap H1 locs1 → H.size ≤ H1.size → W p l e R s m args below meth c H1 locs1 (cells + mc1) (slots + ms1) Q (F0 m (pc + 3) ls (v.toList ++ rest))) : W p l e R s m args below meth c H locs cells slots Q (F0 m pc ls st0) := by
  obtain ⟨hx, hb, hml, hown, hts, hG⟩ := E
  obtain ⟨⟨k1, k2, k3, k4, k5⟩, k6, k7⟩ := ok
  obtain ⟨q1, q2⟩ := ct_pre (P := P) hG hS hP (.ref o :: As)
  refine ct_go (va_runVN (As := As) (rest := rest) (Ts := lw_g) (own := own) (nL := nL) ⟨hx, hb, hml, hown, hts⟩ hM
    ⟨va_cnB k hts (ms_gi k2) rfl rfl rfl (hG.2.1 _ hlk) (hts _ k1) ⟨k3, k4, k5⟩ ⟨Nat.le_of_ble_eq_true hR.1, Nat.le_of_ble_eq_true hR.2⟩, hts _ k6, hts _ k7⟩
    ⟨q1, ho, q2⟩ rfl hlen hls.1 hst0 (lv_room (Nat.le_of_ble_eq_true hst)) hd hf) hS kk
theorem ct_INF (hF : ∀ q, F q → F1 q) (E : EN p s m c cc nL args own g F) (hS : va_S (nF F) s.heap H locs) (hM : CT l y b n none fr lo mc1 ms1 g F1 (.ref o :: As) P post) (ok : okI y b n none k) {host : String} (hlk : Cond.methodLinkNest own idx y host ∈ lw_n) (hP : P H)
    (hlen : As.length = k) {lv : List (Nat × Value)} (hls : lv_has ls nL lv) (hR : Nat.ble (fr + 1) R.frames = true ∧ Nat.ble (8 + (n + 11) + lo) R.locals = true) (hst : Nat.ble (rest.map fun v => v.category).sum 8 = true)
    (hf : cells + mc1 ≤ R.cells ∧ slots + ms1 ≤ R.slots) (hd : decode cc pc = .ok (.invokespecial idx, 3))
    {st0 : List Value} (hst0 : st0 = As.reverse ++ .ref o :: rest)
    (kk : ∀ (v : Option Value) (H1 : Heap) (locs1 : List Loc), post v H1 → va_S (nF F) s.heap H1 locs1 → H.size ≤ H1.size → (∀ q, q < H.size → F1 q → H1[q]? = H[q]?) → W p l e R s m args below meth c H1 locs1 (cells + mc1) (slots + ms1) Q (F0 m (pc + 3) ls (v.toList ++ rest))) : W p l e R s m args below meth c H locs cells slots Q (F0 m pc ls st0) := by
  obtain ⟨hx, hb, hml, hown, hts, hG⟩ := E
  obtain ⟨⟨k1, k2, k3, k4, k5⟩, k6, k7⟩ := ok
  refine ct_goF hF (va_runIN (As := As) (rest := rest) (Ts := lw_g) (own := own) (nL := nL) ⟨hx, hb, hml, hown, hts⟩ hM
    ⟨va_cnB k hts (ms_gi k2) rfl rfl rfl (hG.2.1 _ hlk) (hts _ k1) ⟨k3, k4, k5⟩ ⟨Nat.le_of_ble_eq_true hR.1, Nat.le_of_ble_eq_true hR.2⟩, k7, hts _ k6⟩
    (ct_preF (P := P) hF hG hS hP (.ref o :: As)) rfl hlen hls.1 hst0 (lv_room (Nat.le_of_ble_eq_true hst)) hd hf) hS kk
/-! null or a lift -/
theorem lv_ifnullR (hexec : p.tables.exec = Jvm.exec) (hb : c.code = cc) {r : Option Nat} {off : Int} {tgt : Nat} (hdg : decode cc pc = .ok (.ifnull off, 3)) (ht : (pc : Int) + off = (tgt : Int))
    (kt : r = none → W p l e R s m args below meth c H locs cells slots Q (F0 m tgt ls rest)) (kf : ∀ x, r = some x → W p l e R s m args below meth c H locs cells slots Q (F0 m (pc + 3) ls rest)) : W p l e R s m args below meth c H locs cells slots Q (F0 m pc ls (va_rf r :: rest)) := by
  cases r with
  | none => exact lv_ifnullN hexec hb hdg ht (kt rfl)
  | some x => exact lv_ifnull hexec hb hdg (kf x rfl)
theorem lv_ifnonnullR (hexec : p.tables.exec = Jvm.exec) (hb : c.code = cc) {r : Option Nat} {off : Int} {tgt : Nat} (hdg : decode cc pc = .ok (.ifnonnull off, 3)) (ht : (pc : Int) + off = (tgt : Int))
    (kt : ∀ x, r = some x → W p l e R s m args below meth c H locs cells slots Q (F0 m tgt ls rest)) (kf : r = none → W p l e R s m args below meth c H locs cells slots Q (F0 m (pc + 3) ls rest)) : W p l e R s m args below meth c H locs cells slots Q (F0 m pc ls (va_rf r :: rest)) := by
  cases r with
  | none => exact lv_ifnonnullN hexec hb hdg (kf rfl)
  | some x => exact lv_ifnonnull hexec hb hdg ht (kt x rfl)
end NR
/-! the desk's -/
theorem dO_fst {A : Nat → Nat → Nat} {t t2 : TT} {k i : Nat} : (dO A t k i).1 = (dO A t2 k i).1 := by
  unfold dO
  split <;> rfl
theorem DI.p {nb nl nr ne row i : Nat} {pr : List Nat} {t : TT} {x : Int32} (h : DI nb nl nr ne pr t) (h10 : row ≠ 10 := by decide) (h7 : row ≠ 7 := by decide) (h13 : row ≠ 13 := by decide) (h20 : row ≠ 20 := by decide) (h21 : row ≠ 21 := by decide) (h5 : row ≠ 5 := by decide) : DI nb nl nr ne pr (tu t row i x) := by
  obtain ⟨d1, d2, d3, d4, d5, d6, d7, d8⟩ := h
  exact ⟨d1, d2, by rw [tu_r h10.symm]; exact d3, by rw [tu_r h7.symm]; exact d4, by rw [tu_r h13.symm]; exact d5, by rw [tu_r h20.symm]; exact d6, by rw [tu_r h21.symm]; exact d7, by rw [tu_r h5.symm]; exact d8⟩
theorem tu_all {t : TT} {row i n : Nat} {x : Int32} {P : Int32 → Prop} (h : ∀ j, j < n → P (t row j)) (hx : P x) : ∀ j, j < n → P (tu t row i x row j) := fun j hj => by
  by_cases c : j = i
  · subst c; rw [tu_s]; exact hx
  · rw [tu_i c]; exact h j hj
theorem DI.p10 {nb nl nr ne i : Nat} {pr : List Nat} {t : TT} {x : Int32} (h : DI nb nl nr ne pr t) (hx : x = -1 ∨ ∃ q, q < nl ∧ x = nI q) : DI nb nl nr ne pr (tu t 10 i x) := by
  obtain ⟨d1, d2, d3, d4, d5, d6, d7, d8⟩ := h
  exact ⟨d1, d2, tu_all (P := fun x => x = -1 ∨ ∃ q, q < nl ∧ x = nI q) d3 hx, by rw [tu_r (by decide)]; exact d4, by rw [tu_r (by decide)]; exact d5, by rw [tu_r (by decide)]; exact d6, by rw [tu_r (by decide)]; exact d7, by rw [tu_r (by decide)]; exact d8⟩
theorem DI.p13 {nb nl nr ne i : Nat} {pr : List Nat} {t : TT} {x : Int32} (h : DI nb nl nr ne pr t) (hx : narrow .char (.int x) = .int x) : DI nb nl nr ne pr (tu t 13 i x) := by
  obtain ⟨d1, d2, d3, d4, d5, d6, d7, d8⟩ := h
  exact ⟨d1, d2, by rw [tu_r (by decide)]; exact d3, by rw [tu_r (by decide)]; exact d4, tu_all (P := fun x => narrow .char (.int x) = .int x) d5 hx, by rw [tu_r (by decide)]; exact d6, by rw [tu_r (by decide)]; exact d7, by rw [tu_r (by decide)]; exact d8⟩
theorem DI.p20 {nb nl nr ne i : Nat} {pr : List Nat} {t : TT} {x : Int32} (h : DI nb nl nr ne pr t) (hx : narrow .char (.int x) = .int x) : DI nb nl nr ne pr (tu t 20 i x) := by
  obtain ⟨d1, d2, d3, d4, d5, d6, d7, d8⟩ := h
  exact ⟨d1, d2, by rw [tu_r (by decide)]; exact d3, by rw [tu_r (by decide)]; exact d4, by rw [tu_r (by decide)]; exact d5, tu_all (P := fun x => narrow .char (.int x) = .int x) d6 hx, by rw [tu_r (by decide)]; exact d7, by rw [tu_r (by decide)]; exact d8⟩
theorem DI.p21 {nb nl nr ne i : Nat} {pr : List Nat} {t : TT} {x : Int32} (h : DI nb nl nr ne pr t) (hx : narrow .boolean (.int x) = .int x) : DI nb nl nr ne pr (tu t 21 i x) := by
  obtain ⟨d1, d2, d3, d4, d5, d6, d7, d8⟩ := h
  exact ⟨d1, d2, by rw [tu_r (by decide)]; exact d3, by rw [tu_r (by decide)]; exact d4, by rw [tu_r (by decide)]; exact d5, by rw [tu_r (by decide)]; exact d6, tu_all (P := fun x => narrow .boolean (.int x) = .int x) d7 hx, by rw [tu_r (by decide)]; exact d8⟩
theorem DI.p5 {nb nl nr ne i : Nat} {pr : List Nat} {t : TT} {x : Int32} (h : DI nb nl nr ne pr t) (hx : narrow .boolean (.int x) = .int x) : DI nb nl nr ne pr (tu t 5 i x) := by
  obtain ⟨d1, d2, d3, d4, d5, d6, d7, d8⟩ := h
  exact ⟨d1, d2, by rw [tu_r (by decide)]; exact d3, by rw [tu_r (by decide)]; exact d4, by rw [tu_r (by decide)]; exact d5, by rw [tu_r (by decide)]; exact d6, by rw [tu_r (by decide)]; exact d7, tu_all (P := fun x => narrow .boolean (.int x) = .int x) d8 hx⟩
def pg (pr : List Nat) (i : Nat) : Nat := (pr[i]?).getD 0
theorem pg_of {pr : List Nat} {i r : Nat} (h : pr[i]? = some r) : pg pr i = r := by rw [pg, h]; rfl
section DR
variable {p : Program} {l : Launch} {e : Env} {R : Room} {s : State} {m : MethodId} {args : Array Value} {below : List Frame} {meth : Method} {c : Code} {H : Heap} {locs : List Loc} {cells slots : Nat} {Q : State → Prop}
variable {cc : ByteArray} {pc nL : Nat} {ls : Array Slot} {rest : List Value} {g : cG} {F F1 : Nat → Prop} {H0 : Heap}
variable {A : Nat → Nat → Nat} {nb nl nr ne : Nat} {pr : List Nat} {t : TT}
theorem PD.recv {F2 : Nat → Prop} (hG : GE g F2 s) (h : PD g F A nb nl nr ne pr t H) : ∃ cellB : Cell, H[A 0 0]? = some cellB ∧ cellB.vm.isStatics = false ∧ s.vm.findClass RX4 = some cellB.cls :=
  va_recv (q := (RX4, TX4, 12)) (q0 := 0) (ci := 7) hG.1 (va_P1 (h.ob (k := 0) (i := 0) (by exact Nat.one_pos) (Or.inl rfl) (by decide)).1) rfl rfl
theorem PD.recvK {F2 : Nat → Prop} (hG : GE g F2 s) (h : PD g F A nb nl nr ne pr t H) {k i : Nat} (hi : i < dN nb nl nr ne k) (hk : kOb k) (h7 : k ≠ 7) {C : String} {T : u_T} {N ci : Nat} {ty0 : Nat → FieldType} (kc : KC C T N ci ty0) (hci : (dO A t k i).1 = ci) : ∃ cellB : Cell, H[A k i]? = some cellB ∧ cellB.vm.isStatics = false ∧ s.vm.findClass C = some cellB.cls := by
  subst hci
  exact va_recv (q := (C, T, N)) (q0 := 0) hG.1 (va_P1 (h.ob hi hk h7).1) kc.2.2.2 rfl
theorem PD.lrecv {F2 : Nat → Prop} (hG : GE g F2 s) (h : PD g F A nb nl nr ne pr t H) {j : Nat} (hj : j < 5) : ∃ cellB : Cell, H[A 2 j]? = some cellB ∧ cellB.vm.isStatics = false ∧ s.vm.findClass RJx4a65c = some cellB.cls := by
  obtain ⟨md, q, h1⟩ := h.alo hj
  exact va_recv (q := (RJx4a65c, TJx4a65c, 3)) (q0 := 0) (ci := 2) hG.1 (va_P1 h1) rfl rfl
/-- a field of the desk -/
theorem dg (E : EN p s m c cc nL args RX4 g F) (hP : PD g F A nb nl nr ne pr t H) (j : Nat) {x : Nat} {v : Value} (hlink : Cond.fieldLink RX4 x RX4 (TX4 j).2.1 (TX4 j).2.2.1 ∈ lw_g) (hd : decode cc pc = .ok (.getfield x, 3)) (hj : Nat.ble (j + 1) 12 = true := by rfl) (hT : (TX4 j).1 = RX4 := by rfl) (hv : (dO A t 0 0).2[j]? = some v := by rfl)
    (kk : W p l e R s m args below meth c H locs cells slots Q (F0 m (pc + 3) ls (v :: rest))) : W p l e R s m args below meth c H locs cells slots Q (F0 m pc ls (.ref (A 0 0) :: rest)) :=
  w_get E (C := RX4) (T := TX4) (N := 12) (ci := 7) ly_X4 (hP.ob (k := 0) (i := 0) (by exact Nat.one_pos) (Or.inl rfl) (by decide)).1 rfl j (Nat.le_of_ble_eq_true hj) hT hlink hv hd kk
theorem dp (E : EN p s m c cc nL args RX4 g F) (hS : va_S (nF F) H0 H locs) (hP : PD g F A nb nl nr ne pr t H) (j row : Nat) {idx : Nat} {x : Int32} (hlink : Cond.fieldLink RX4 idx RX4 (TX4 j).2.1 (TX4 j).2.2.1 ∈ lw_g) (hset : (dO A t 0 0).2.set j (.int x) = (dO A (tu t row 0 x) 0 0).2) (hdi : DI nb nl nr ne pr (tu t row 0 x)) (hd : decode cc pc = .ok (.putfield idx, 3))
    (hr : dK row = 0 := by rfl) (hj : Nat.ble (j + 1) 12 = true := by rfl) (hT : (TX4 j).1 = RX4 := by rfl) (hfin : (TX4 j).2.2.2 = false := by rfl) (hty : tyX4 j = .int := by rfl)
    (kk : ∀ (H1 : Heap) (locs1 : List Loc), va_S (nF F) H0 H1 locs1 → PD g F A nb nl nr ne pr (tu t row 0 x) H1 → W p l e R s m args below meth c H1 locs1 cells slots Q (F0 m (pc + 3) ls rest)) : W p l e R s m args below meth c H locs cells slots Q (F0 m pc ls (.int x :: .ref (A 0 0) :: rest)) := by
  have ho := hP.ob (k := 0) (i := 0) (by exact Nat.one_pos) (Or.inl rfl) (by decide)
  refine w_put E (C := RX4) (T := TX4) (N := 12) (ci := 7) ly_X4 tyX4 tyX4_ok nmX4 hS ho.1 ho.2 rfl j (Nat.le_of_ble_eq_true hj) hT hlink hfin (by rw [hty]; rfl) (by rw [hty]; rfl) (Nat.le_of_ble_eq_true hj) hd fun H1 locs1 e1 z oq hS1 => kk H1 locs1 hS1 (hP.put (by exact Nat.one_pos) (Or.inl rfl) (by decide) hr hdi (Nat.le_of_eq z.symm) ?_ oq)
  have e2 : dO A (tu t row 0 x) 0 0 = (7, (dO A (tu t row 0 x) 0 0).2) := rfl
  rw [e2, ← hset]
  exact e1
/-- a field of a badge, a lift, a rider -/
theorem dgn (E : EN p s m c cc nL args RX4 g F) (hP : PD g F A nb nl nr ne pr t H) (k i : Nat) (hi : i < dN nb nl nr ne k) {C : String} {T : u_T} {N ci : Nat} {ty0 : Nat → FieldType} (kc : KC C T N ci ty0) (j : Nat) {x : Nat} {v : Value} (hlink : Cond.fieldLinkNest RX4 x C (T j).2.1 (T j).2.2.1 RX4 ∈ lw_n) (hd : decode cc pc = .ok (.getfield x, 3)) (hk : kOb k := by decide) (h7 : k ≠ 7 := by decide) (hci : (dO A t k i).1 = ci := by rfl) (hj : Nat.ble (j + 1) N = true := by rfl) (hT : (T j).1 = C := by rfl) (hv : (dO A t k i).2[j]? = some v := by rfl)
    (kk : W p l e R s m args below meth c H locs cells slots Q (F0 m (pc + 3) ls (v :: rest))) : W p l e R s m args below meth c H locs cells slots Q (F0 m pc ls (.ref (A k i) :: rest)) := by
  subst hci
  exact w_getN E kc (hP.ob hi hk h7).1 j (Nat.le_of_ble_eq_true hj) hT hlink hv hd kk
theorem dpn (E : EN p s m c cc nL args RX4 g F) (hS : va_S (nF F) H0 H locs) (hP : PD g F A nb nl nr ne pr t H) (k i : Nat) (hi : i < dN nb nl nr ne k) {C : String} {T : u_T} {N ci : Nat} {ty0 : Nat → FieldType} (kc : KC C T N ci ty0) (j row : Nat) {idx : Nat} {x : Int32} {v : Value} (hlink : Cond.fieldLinkNest RX4 idx C (T j).2.1 (T j).2.2.1 RX4 ∈ lw_n) (hset : (dO A t k i).2.set j v = (dO A (tu t row i x) k i).2) (hdi : DI nb nl nr ne pr (tu t row i x)) (hn : narrow (ty0 j) v = v) (hfit : fits (ty0 j) v = true) (hd : decode cc pc = .ok (.putfield idx, 3))
    (hr : dK row = k := by rfl) (hk : kOb k := by decide) (h7 : k ≠ 7 := by decide) (hci : (dO A t k i).1 = ci := by rfl) (hj : Nat.ble (j + 1) N = true := by rfl) (hT : (T j).1 = C := by rfl) (hfin : (T j).2.2.2 = false := by rfl) (hl : Nat.ble (j + 1) (dO A t k i).2.length = true := by rfl)
    (kk : ∀ (H1 : Heap) (locs1 : List Loc), va_S (nF F) H0 H1 locs1 → PD g F A nb nl nr ne pr (tu t row i x) H1 → W p l e R s m args below meth c H1 locs1 cells slots Q (F0 m (pc + 3) ls rest)) : W p l e R s m args below meth c H locs cells slots Q (F0 m pc ls (v :: .ref (A k i) :: rest)) := by
  subst hci
  have ho := hP.ob hi hk h7
  refine w_putN E kc hS ho.1 ho.2 j (Nat.le_of_ble_eq_true hj) hT hlink hfin hn hfit (Nat.le_of_ble_eq_true hl) hd fun H1 locs1 e1 z oq hS1 => kk H1 locs1 hS1 (hP.put hi hk h7 hr hdi (Nat.le_of_eq z.symm) ?_ oq)
  have e2 : dO A (tu t row i x) k i = ((dO A t k i).1, (dO A (tu t row i x) k i).2) := by rw [dO_fst (t := t) (t2 := tu t row i x)]
  rw [e2, ← hset]
  exact e1
/-- places of the desk's arrays -/
theorem dai (E : EN p s m c cc nL args RX4 g F) (hP : PD g F A nb nl nr ne pr t H) (j q : Nat) {i v : Int32} (hd : decode cc pc = .ok (.iaload, 1)) (hi : i = nI q) (hq : q < 10) (hv : t (j + 1) q = v) (hj : Nat.ble (j + 1) 3 = true := by rfl)
    (kk : W p l e R s m args below meth c H locs cells slots Q (F0 m (pc + 1) ls (.int v :: rest))) : W p l e R s m args below meth c H locs cells slots Q (F0 m pc ls (.int i :: .ref (A 1 j) :: rest)) := by
  obtain ⟨h1, h2⟩ := vp_in9 hi hq rfl
  exact w_iald E (hP.arr (Nat.le_of_ble_eq_true hj)).1 h1 hd (by rw [h2, hv]; exact kk)
theorem das (E : EN p s m c cc nL args RX4 g F) (hS : va_S (nF F) H0 H locs) (hP : PD g F A nb nl nr ne pr t H) (j q : Nat) {i v : Int32} (hd : decode cc pc = .ok (.iastore, 1)) (hi : i = nI q) (hq : q < 10) (hj : Nat.ble (j + 1) 3 = true := by rfl)
    (kk : ∀ (H1 : Heap) (locs1 : List Loc), va_S (nF F) H0 H1 locs1 → PD g F A nb nl nr ne pr (tu t (j + 1) q v) H1 → W p l e R s m args below meth c H1 locs1 cells slots Q (F0 m (pc + 1) ls rest)) : W p l e R s m args below meth c H locs cells slots Q (F0 m pc ls (.int v :: .int i :: .ref (A 1 j) :: rest)) := by
  obtain ⟨h1, h2⟩ := vp_in9 hi hq rfl
  have ho := hP.arr (Nat.le_of_ble_eq_true hj)
  exact w_iast E hS ho.1 ho.2 h1 hd fun H1 locs1 e1 z oq hS1 => kk H1 locs1 hS1 (hP.aput (Nat.le_of_ble_eq_true hj) (Nat.le_of_eq z.symm) (by rw [h2] at e1; exact e1) oq)
/-! calls of the lists -/
theorem d_len (E : EN p s m c cc nL args RX4 g F) (hS : va_S (nF F) s.heap H locs) (hP : PD g F A nb nl nr ne pr t H) (j : Nat) (n : Nat) {lv : List (Nat × Value)} (hls : lv_has ls nL lv) (hR : Nat.ble 1 R.frames = true ∧ Nat.ble 20 R.locals = true) (hf : cells ≤ R.cells ∧ slots ≤ R.slots) (hd : decode cc pc = .ok (.invokevirtual 58, 3)) (hst : Nat.ble (rest.map fun v => v.category).sum 8 = true := by rfl) (hn : dLn nb nl nr ne pr j = n := by rfl) (hj : Nat.ble (j + 1) 5 = true := by rfl)
    (kk : ∀ (locs1 : List Loc), va_S (nF F) s.heap H locs1 → W p l e R s m args below meth c H locs1 cells slots Q (F0 m (pc + 3) ls (.int (nI n) :: rest))) : W p l e R s m args below meth c H locs cells slots Q (F0 m pc ls (.ref (A 2 j) :: rest)) := by
  subst hn
  refine ct_V E hS (c_AL_size l g F (A 2 j) (dLn nb nl nr ne pr j) (fun X => X = H) (fun H9 h9 => by subst h9; exact hP.alo (Nat.le_of_ble_eq_true hj))) ok_Jx4a65c_size_8abf5 lk_X4_58 rfl (hP.lrecv E.2.2.2.2.2 (Nat.le_of_ble_eq_true hj)) rfl hls hR hst hf hd rfl (fun v9 H1 locs1 hv9 hS1 hz => ?_)
  obtain ⟨rfl, rfl⟩ := hv9
  exact kk locs1 hS1
theorem d_emp (E : EN p s m c cc nL args RX4 g F) (hS : va_S (nF F) s.heap H locs) (hP : PD g F A nb nl nr ne pr t H) (j : Nat) (n : Nat) {lv : List (Nat × Value)} (hls : lv_has ls nL lv) (hR : Nat.ble 1 R.frames = true ∧ Nat.ble 20 R.locals = true) (hf : cells ≤ R.cells ∧ slots ≤ R.slots) (hd : decode cc pc = .ok (.invokevirtual 195, 3)) (hst : Nat.ble (rest.map fun v => v.category).sum 8 = true := by rfl) (hn : dLn nb nl nr ne pr j = n := by rfl) (hj : Nat.ble (j + 1) 5 = true := by rfl)
    (kk : ∀ (locs1 : List Loc), va_S (nF F) s.heap H locs1 → W p l e R s m args below meth c H locs1 cells slots Q (F0 m (pc + 3) ls (.int (b2i (nI n = 0)) :: rest))) : W p l e R s m args below meth c H locs cells slots Q (F0 m pc ls (.ref (A 2 j) :: rest)) := by
  subst hn
  refine ct_V E hS (c_AL_isEmpty l g F (A 2 j) (dLn nb nl nr ne pr j) (fun X => X = H) (fun H9 h9 => by subst h9; exact hP.alo (Nat.le_of_ble_eq_true hj))) ok_Jx4a65c_isEmpty_aae02 lk_X4_195 rfl (hP.lrecv E.2.2.2.2.2 (Nat.le_of_ble_eq_true hj)) rfl hls hR hst hf hd rfl (fun v9 H1 locs1 hv9 hS1 hz => ?_)
  obtain ⟨rfl, rfl⟩ := hv9
  exact kk locs1 hS1
theorem AL.gets {a q i y : Nat} {els : List Nat} (h : AL g F a q els H) (hy : els[i]? = some y) : ∃ md q cap f, va_at g.1 vwCl (a, alO md q els.length) H ∧ va_at g.1 vwCl (q, alA g cap f) H ∧ i < cap ∧ cap ≤ 200 ∧ f i = some y := by
  obtain ⟨h1, ⟨md, h2⟩, h3, h4⟩ := h
  have hi : i < els.length := (List.getElem?_eq_some_iff.mp hy).1
  rcases h4 with ⟨rfl, -⟩ | ⟨h5, h6, cap, f, h7, h8, h9, h10, h11⟩
  · exact absurd hi (by simp)
  · exact ⟨md, q, cap, f, h2, h7, by omega, h10, by rw [h11 i hi, hy]⟩
theorem d_get (E : EN p s m c cc nL args RX4 g F) (hS : va_S (nF F) s.heap H locs) (hP : PD g F A nb nl nr ne pr t H) (j k i n y : Nat) {x : Int32} (hx : x = nI i) (hj : j < 4) (hn : dLn nb nl nr ne pr j = n) (hn9 : n < 1000) (hy : (dEl A nb nl nr ne pr j)[i]? = some (A k y)) (hyk : y < dN nb nl nr ne k) {C : String} {T : u_T} {N ci : Nat} {ty0 : Nat → FieldType} (kc : KC C T N ci ty0) (hci : (dO A t k y).1 = ci) (hk : kOb k) (h7 : k ≠ 7) {idx : Nat} (hcl : Cond.classLink RX4 idx C ∈ lw_g) {lv : List (Nat × Value)} (hls : lv_has ls nL lv) (hR : Nat.ble 3 R.frames = true ∧ Nat.ble 64 R.locals = true) (hf : cells ≤ R.cells ∧ slots ≤ R.slots) (hd : decode cc pc = .ok (.invokevirtual 214, 3)) (hd2 : decode cc (pc + 3) = .ok (.checkcast idx, 3)) (hst : Nat.ble (rest.map fun v => v.category).sum 8 = true)
    (kk : ∀ (locs1 : List Loc), va_S (nF F) s.heap H locs1 → W p l e R s m args below meth c H locs1 cells slots Q (F0 m (pc + 6) ls (.ref (A k y) :: rest))) : W p l e R s m args below meth c H locs cells slots Q (F0 m pc ls (.int x :: .ref (A 2 j) :: rest)) := by
  subst hx
  have hil : i < (dEl A nb nl nr ne pr j).length := (List.getElem?_eq_some_iff.mp hy).1
  rw [dEl_len, hn] at hil
  refine ct_V E hS (c_AL_get l g F (A 2 j) i (A k y) n (fun X => X = H) hn9 hil (fun H9 h9 => by
    subst h9
    obtain ⟨q, hq⟩ := hP.al hj
    obtain ⟨md, q, cap, f, z⟩ := hq.gets hy
    rw [dEl_len, hn] at z
    exact ⟨md, q, cap, f, z⟩)) ok_Jx4a65c_get_915e3 lk_X4_214 rfl (hP.lrecv E.2.2.2.2.2 (by omega)) rfl hls hR hst hf hd rfl (fun v9 H1 locs1 hv9 hS1 hz => ?_)
  obtain ⟨rfl, rfl⟩ := hv9
  exact va_castS E.1 E.2.1 E.2.2.2.1 (E.2.2.2.2.1 _ hcl) (E.2.2.2.2.2.1.1 ci _ kc.2.2.2).2 (hP.recvK E.2.2.2.2.2 hyk hk h7 kc hci) hd2 (kk locs1 hS1)
theorem d_getP (E : EN p s m c cc nL args RX4 g F) (hS : va_S (nF F) s.heap H locs) (hP : PD g F A nb nl nr ne pr t H) (i : Nat) {x : Int32} (hx : x = nI i) (hi : i < pr.length) {lv : List (Nat × Value)} (hls : lv_has ls nL lv) (hR : Nat.ble 3 R.frames = true ∧ Nat.ble 64 R.locals = true) (hf : cells ≤ R.cells ∧ slots ≤ R.slots) (hd : decode cc pc = .ok (.invokevirtual 214, 3)) (hd2 : decode cc (pc + 3) = .ok (.checkcast 123, 3)) (hst : Nat.ble (rest.map fun v => v.category).sum 8 = true := by rfl)
    (kk : ∀ r, r < nr → pr[i]? = some r → pg pr i = r → ∀ (locs1 : List Loc), va_S (nF F) s.heap H locs1 → W p l e R s m args below meth c H locs1 cells slots Q (F0 m (pc + 6) ls (.ref (A 6 r) :: rest))) : W p l e R s m args below meth c H locs cells slots Q (F0 m pc ls (.int x :: .ref (A 2 3) :: rest)) := by
  have h1 : pr[i]? = some (pr[i]) := List.getElem?_eq_getElem hi
  have h2 : pr[i] < nr := hP.di.2.1 _ (List.getElem_mem hi)
  refine d_get E hS hP 3 6 i pr.length (pr[i]) hx (by decide) rfl (by have := hP.di.1; omega) ?_ h2 kcX3 rfl (by decide) (by decide) kl_X4_123 hls hR hf hd hd2 hst (kk _ h2 h1 (pg_of h1))
  show (pr.map (A 6))[i]? = _
  rw [List.getElem?_map, h1]; rfl
theorem d_getR (E : EN p s m c cc nL args RX4 g F) (hS : va_S (nF F) s.heap H locs) (hP : PD g F A nb nl nr ne pr t H) (i : Nat) {x : Int32} (hx : x = nI i) (hi : i < nr) {lv : List (Nat × Value)} (hls : lv_has ls nL lv) (hR : Nat.ble 3 R.frames = true ∧ Nat.ble 64 R.locals = true) (hf : cells ≤ R.cells ∧ slots ≤ R.slots) (hd : decode cc pc = .ok (.invokevirtual 214, 3)) (hd2 : decode cc (pc + 3) = .ok (.checkcast 123, 3)) (hst : Nat.ble (rest.map fun v => v.category).sum 8 = true := by rfl)
    (kk : ∀ (locs1 : List Loc), va_S (nF F) s.heap H locs1 → W p l e R s m args below meth c H locs1 cells slots Q (F0 m (pc + 6) ls (.ref (A 6 i) :: rest))) : W p l e R s m args below meth c H locs cells slots Q (F0 m pc ls (.int x :: .ref (A 2 2) :: rest)) := by
  refine d_get E hS hP 2 6 i nr i hx (by decide) rfl (by have := hP.di.1; omega) ?_ hi kcX3 rfl (by decide) (by decide) kl_X4_123 hls hR hf hd hd2 hst kk
  show ((List.range nr).map (A 6))[i]? = _
  rw [List.getElem?_map, List.getElem?_range hi]; rfl
theorem d_getL (E : EN p s m c cc nL args RX4 g F) (hS : va_S (nF F) s.heap H locs) (hP : PD g F A nb nl nr ne pr t H) (i : Nat) {x : Int32} (hx : x = nI i) (hi : i < nl) {lv : List (Nat × Value)} (hls : lv_has ls nL lv) (hR : Nat.ble 3 R.frames = true ∧ Nat.ble 64 R.locals = true) (hf : cells ≤ R.cells ∧ slots ≤ R.slots) (hd : decode cc pc = .ok (.invokevirtual 214, 3)) (hd2 : decode cc (pc + 3) = .ok (.checkcast 67, 3)) (hst : Nat.ble (rest.map fun v => v.category).sum 8 = true := by rfl)
    (kk : ∀ (locs1 : List Loc), va_S (nF F) s.heap H locs1 → W p l e R s m args below meth c H locs1 cells slots Q (F0 m (pc + 6) ls (.ref (A 5 i) :: rest))) : W p l e R s m args below meth c H locs cells slots Q (F0 m pc ls (.int x :: .ref (A 2 1) :: rest)) := by
  refine d_get E hS hP 1 5 i nl i hx (by decide) rfl (by have := hP.di.1; omega) ?_ hi kcX2 rfl (by decide) (by decide) kl_X4_67 hls hR hf hd hd2 hst kk
  show ((List.range nl).map (A 5))[i]? = _
  rw [List.getElem?_map, List.getElem?_range hi]; rfl
theorem d_getB (E : EN p s m c cc nL args RX4 g F) (hS : va_S (nF F) s.heap H locs) (hP : PD g F A nb nl nr ne pr t H) (i : Nat) {x : Int32} (hx : x = nI i) (hi : i < nb) {lv : List (Nat × Value)} (hls : lv_has ls nL lv) (hR : Nat.ble 3 R.frames = true ∧ Nat.ble 64 R.locals = true) (hf : cells ≤ R.cells ∧ slots ≤ R.slots) (hd : decode cc pc = .ok (.invokevirtual 214, 3)) (hd2 : decode cc (pc + 3) = .ok (.checkcast 90, 3)) (hst : Nat.ble (rest.map fun v => v.category).sum 8 = true := by rfl)
    (kk : ∀ (locs1 : List Loc), va_S (nF F) s.heap H locs1 → W p l e R s m args below meth c H locs1 cells slots Q (F0 m (pc + 6) ls (.ref (A 4 i) :: rest))) : W p l e R s m args below meth c H locs cells slots Q (F0 m pc ls (.int x :: .ref (A 2 0) :: rest)) := by
  refine d_get E hS hP 0 4 i nb i hx (by decide) rfl (by have := hP.di.1; omega) ?_ hi kcX0 rfl (by decide) (by decide) kl_X4_90 hls hR hf hd hd2 hst kk
  show ((List.range nb).map (A 4))[i]? = _
  rw [List.getElem?_map, List.getElem?_range hi]; rfl
end DR
/-! fields set -/
section HS
variable {A : Nat → Nat → Nat} {t : TT} {i : Nat} {x : Int32}
theorem hs_now : (dO A t 0 0).2.set 8 (.int x) = (dO A (tu t 23 0 x) 0 0).2 := by simp [dO, tu]
theorem hs_alarm : (dO A t 0 0).2.set 9 (.int x) = (dO A (tu t 60 0 x) 0 0).2 := by simp [dO, tu]
theorem hs_open : (dO A t 0 0).2.set 10 (.int x) = (dO A (tu t 24 0 x) 0 0).2 := by simp [dO, tu]
theorem hs_ref : (dO A t 0 0).2.set 11 (.int x) = (dO A (tu t 25 0 x) 0 0).2 := by simp [dO, tu]
theorem hs_5 : (dO A t 4 i).2.set 1 (.int x) = (dO A (tu t 5 i x) 4 i).2 := by simp [dO, tu]
theorem hs_18 : (dO A t 5 i).2.set 2 (.int x) = (dO A (tu t 18 i x) 5 i).2 := by simp [dO, tu]
theorem hs_21 : (dO A t 5 i).2.set 3 (.int x) = (dO A (tu t 21 i x) 5 i).2 := by simp [dO, tu]
theorem hs_20 : (dO A t 5 i).2.set 4 (.int x) = (dO A (tu t 20 i x) 5 i).2 := by simp [dO, tu]
theorem hs_19 : (dO A t 5 i).2.set 5 (.int x) = (dO A (tu t 19 i x) 5 i).2 := by simp [dO, tu]
theorem hs_8 : (dO A t 6 i).2.set 2 (.int x) = (dO A (tu t 8 i x) 6 i).2 := by simp [dO, tu]
theorem hs_9 : (dO A t 6 i).2.set 3 (.int x) = (dO A (tu t 9 i x) 6 i).2 := by simp [dO, tu]
theorem hs_13 : (dO A t 6 i).2.set 4 (.int x) = (dO A (tu t 13 i x) 6 i).2 := by simp [dO, tu]
theorem hs_10 : (dO A t 6 i).2.set 5 (va_rf (lref A x)) = (dO A (tu t 10 i x) 6 i).2 := by simp [dO, tu]
theorem hs_40 : (dO A t 6 i).2.set 6 (.int x) = (dO A (tu t 40 i x) 6 i).2 := by simp [dO, tu]
end HS
end
section
theorem fit_c {x : Int32} (h : narrow .char (.int x) = .int x) : fits .char (.int x) = true := by rw [← h]; exact fits_narrow_char x
theorem fit_z {x : Int32} (h : narrow .boolean (.int x) = .int x) : fits .boolean (.int x) = true := by rw [← h]; exact fits_narrow_boolean x
set_option maxHeartbeats 4000000 in
set_option maxRecDepth 100000 in
theorem c_X0_init (l : Launch) (g : cG) (F : Nat → Prop) (a : Nat) (x : Int32) (ha : ¬ F a)  : CT l yX0_init cX0_init 2 none 1 12 0 0 g F [.ref a, .int x] (fun H => va_at g.1 vwCl (a, .inr (3, [.int 0, .int 0])) H) (fun v H => v = none ∧ va_at g.1 vwCl (a, .inr (3, [.int x, .int 0])) H) := by
  refine CT.of (by decide) rfl ?_
  intro p e s m args below meth c E hr hk hnm hP ls hl
  have hS : va_S (nF F) s.heap s.heap [] := va_S.rf
  have hx := E.1
  have hb := E.2.1
  have hml := E.2.2.1
  have hown := E.2.2.2.1
  have hts := E.2.2.2.2.1
  have hG := E.2.2.2.2.2
  have hl : lv_has ls 2 [(0, .ref a), (1, .int x)] := hl
  refine lv_aload_n hx hb dX0_init_0 rfl (lv_at hl 0 rfl) ?_
  refine W.objInit hx hb hown (hts _ lk_X0_1) (hts _ im_obj) (hts _ cd_obj) rfl (by rw [hml]; exact hl.1) rfl dX0_init_1 (Nat.le_of_ble_eq_true rfl) (Nat.le_of_ble_eq_true rfl) ?_
  refine W.eq (g2 := F0 m 4 ls []) rfl ?_
  refine lv_aload_n hx hb dX0_init_4 rfl (lv_at hl 0 rfl) ?_
  refine lv_iconst (v := 0) hx hb dX0_init_5 (by decide) ?_
  refine w_put E (C := RX0) (T := TX0) (N := 2) (ci := 3) ly_X0 tyX0 tyX0_ok nmX0 hS hP ha rfl 1 (by decide) rfl fk_X0_7 rfl (by decide) rfl (by decide : 1 < 2) dX0_init_6 (fun H1 locs1 hP z1 oq1 hS => ?_)
  refine lv_aload_n hx hb dX0_init_9 rfl (lv_at hl 0 rfl) ?_
  refine lv_iload_n hx hb dX0_init_10 rfl (lv_at hl 1 rfl) ?_
  refine w_putF E kcX0 hnm hS hP ha 0 (by decide) rfl fk_X0_13 rfl rfl rfl (by decide : 0 < 2) dX0_init_11 (fun H1 locs1 hP z1 oq1 hS => ?_)
  exact ct_vret E hr hk hS ⟨rfl, hP⟩ dX0_init_14

set_option maxHeartbeats 4000000 in
set_option maxRecDepth 100000 in
theorem c_X1_init (l : Launch) (g : cG) (F : Nat → Prop) (a : Nat) (x y z : Int32) (ha : ¬ F a) (hv : narrow .char (.int y) = .int y) : CT l yX1_init cX1_init 4 none 1 12 0 0 g F [.ref a, .int x, .int y, .int z] (fun H => va_at g.1 vwCl (a, .inr (4, [.int 0, .int 0, .int 0])) H) (fun v H => v = none ∧ va_at g.1 vwCl (a, .inr (4, [.int x, .int y, .int z])) H) := by
  refine CT.of (by decide) rfl ?_
  intro p e s m args below meth c E hr hk hnm hP ls hl
  have hS : va_S (nF F) s.heap s.heap [] := va_S.rf
  have hx := E.1
  have hb := E.2.1
  have hml := E.2.2.1
  have hown := E.2.2.2.1
  have hts := E.2.2.2.2.1
  have hG := E.2.2.2.2.2
  have hl : lv_has ls 4 [(0, .ref a), (1, .int x), (2, .int y), (3, .int z)] := hl
  refine lv_aload_n hx hb dX1_init_0 rfl (lv_at hl 0 rfl) ?_
  refine W.objInit hx hb hown (hts _ lk_X1_1) (hts _ im_obj) (hts _ cd_obj) rfl (by rw [hml]; exact hl.1) rfl dX1_init_1 (Nat.le_of_ble_eq_true rfl) (Nat.le_of_ble_eq_true rfl) ?_
  refine W.eq (g2 := F0 m 4 ls []) rfl ?_
  refine lv_aload_n hx hb dX1_init_4 rfl (lv_at hl 0 rfl) ?_
  refine lv_iload_n hx hb dX1_init_5 rfl (lv_at hl 1 rfl) ?_
  refine w_putF E kcX1 hnm hS hP ha 0 (by decide) rfl fk_X1_7 rfl rfl rfl (by decide : 0 < 3) dX1_init_6 (fun H1 locs1 hP z1 oq1 hS => ?_)
  refine lv_aload_n hx hb dX1_init_9 rfl (lv_at hl 0 rfl) ?_
  refine lv_iload_n hx hb dX1_init_10 rfl (lv_at hl 2 rfl) ?_
  refine w_putF E kcX1 hnm hS hP ha 1 (by decide) rfl fk_X1_13 rfl hv (fit_c hv) (by decide : 1 < 3) dX1_init_11 (fun H1 locs1 hP z1 oq1 hS => ?_)
  refine lv_aload_n hx hb dX1_init_14 rfl (lv_at hl 0 rfl) ?_
  refine lv_iload_n hx hb dX1_init_15 rfl (lv_at hl 3 rfl) ?_
  refine w_putF E kcX1 hnm hS hP ha 2 (by decide) rfl fk_X1_17 rfl rfl rfl (by decide : 2 < 3) dX1_init_16 (fun H1 locs1 hP z1 oq1 hS => ?_)
  exact ct_vret E hr hk hS ⟨rfl, hP⟩ dX1_init_19

set_option maxHeartbeats 4000000 in
set_option maxRecDepth 100000 in
theorem c_X2_init (l : Launch) (g : cG) (F : Nat → Prop) (a : Nat) (x y : Int32) (ha : ¬ F a)  : CT l yX2_init cX2_init 3 none 1 12 0 0 g F [.ref a, .int x, .int y] (fun H => va_at g.1 vwCl (a, .inr (5, [.int 0, .int 0, .int 0, .int 0, .int 0, .int 0])) H) (fun v H => v = none ∧ va_at g.1 vwCl (a, .inr (5, [.int x, .int y, .int 0, .int 1, .int 115, .int 0])) H) := by
  refine CT.of (by decide) rfl ?_
  intro p e s m args below meth c E hr hk hnm hP ls hl
  have hS : va_S (nF F) s.heap s.heap [] := va_S.rf
  have hx := E.1
  have hb := E.2.1
  have hml := E.2.2.1
  have hown := E.2.2.2.1
  have hts := E.2.2.2.2.1
  have hG := E.2.2.2.2.2
  have hl : lv_has ls 3 [(0, .ref a), (1, .int x), (2, .int y)] := hl
  refine lv_aload_n hx hb dX2_init_0 rfl (lv_at hl 0 rfl) ?_
  refine W.objInit hx hb hown (hts _ lk_X2_3) (hts _ im_obj) (hts _ cd_obj) rfl (by rw [hml]; exact hl.1) rfl dX2_init_1 (Nat.le_of_ble_eq_true rfl) (Nat.le_of_ble_eq_true rfl) ?_
  refine W.eq (g2 := F0 m 4 ls []) rfl ?_
  refine lv_aload_n hx hb dX2_init_4 rfl (lv_at hl 0 rfl) ?_
  refine lv_iconst (v := 0) hx hb dX2_init_5 (by decide) ?_
  refine w_put E (C := RX2) (T := TX2) (N := 6) (ci := 5) ly_X2 tyX2 tyX2_ok nmX2 hS hP ha rfl 2 (by decide) rfl fk_X2_9 rfl rfl rfl (by decide : 2 < 6) dX2_init_6 (fun H1 locs1 hP z1 oq1 hS => ?_)
  refine lv_aload_n hx hb dX2_init_9 rfl (lv_at hl 0 rfl) ?_
  refine lv_iconst (v := 1) hx hb dX2_init_10 (by decide) ?_
  refine w_put E (C := RX2) (T := TX2) (N := 6) (ci := 5) ly_X2 tyX2 tyX2_ok nmX2 hS hP ha rfl 3 (by decide) rfl fk_X2_15 rfl (by decide) rfl (by decide : 3 < 6) dX2_init_11 (fun H1 locs1 hP z1 oq1 hS => ?_)
  refine lv_aload_n hx hb dX2_init_14 rfl (lv_at hl 0 rfl) ?_
  refine lv_bipush (v := 115) hx hb dX2_init_15 (by decide) ?_
  refine w_put E (C := RX2) (T := TX2) (N := 6) (ci := 5) ly_X2 tyX2 tyX2_ok nmX2 hS hP ha rfl 4 (by decide) rfl fk_X2_19 rfl (by decide) rfl (by decide : 4 < 6) dX2_init_17 (fun H1 locs1 hP z1 oq1 hS => ?_)
  refine lv_aload_n hx hb dX2_init_20 rfl (lv_at hl 0 rfl) ?_
  refine lv_iconst (v := 0) hx hb dX2_init_21 (by decide) ?_
  refine w_put E (C := RX2) (T := TX2) (N := 6) (ci := 5) ly_X2 tyX2 tyX2_ok nmX2 hS hP ha rfl 5 (by decide) rfl fk_X2_23 rfl rfl rfl (by decide : 5 < 6) dX2_init_22 (fun H1 locs1 hP z1 oq1 hS => ?_)
  refine lv_aload_n hx hb dX2_init_25 rfl (lv_at hl 0 rfl) ?_
  refine lv_iload_n hx hb dX2_init_26 rfl (lv_at hl 1 rfl) ?_
  refine w_putF E kcX2 hnm hS hP ha 0 (by decide) rfl fk_X2_26 rfl rfl rfl (by decide : 0 < 6) dX2_init_27 (fun H1 locs1 hP z1 oq1 hS => ?_)
  refine lv_aload_n hx hb dX2_init_30 rfl (lv_at hl 0 rfl) ?_
  refine lv_iload_n hx hb dX2_init_31 rfl (lv_at hl 2 rfl) ?_
  refine w_putF E kcX2 hnm hS hP ha 1 (by decide) rfl fk_X2_29 rfl rfl rfl (by decide : 1 < 6) dX2_init_32 (fun H1 locs1 hP z1 oq1 hS => ?_)
  exact ct_vret E hr hk hS ⟨rfl, hP⟩ dX2_init_35

set_option maxHeartbeats 4000000 in
set_option maxRecDepth 100000 in
theorem c_X3_init (l : Launch) (g : cG) (F : Nat → Prop) (a : Nat) (x : Int32) (b : Nat) (y z : Int32) (ha : ¬ F a)  : CT l yX3_init cX3_init 5 none 1 12 0 0 g F [.ref a, .int x, .ref b, .int y, .int z] (fun H => va_at g.1 vwCl (a, .inr (6, [.int 0, .null, .int 0, .int 0, .int 0, .null, .int 0])) H) (fun v H => v = none ∧ va_at g.1 vwCl (a, .inr (6, [.int x, .ref b, .int y, .int z, .int 119, .null, .int 0])) H) := by
  refine CT.of (by decide) rfl ?_
  intro p e s m args below meth c E hr hk hnm hP ls hl
  have hS : va_S (nF F) s.heap s.heap [] := va_S.rf
  have hx := E.1
  have hb := E.2.1
  have hml := E.2.2.1
  have hown := E.2.2.2.1
  have hts := E.2.2.2.2.1
  have hG := E.2.2.2.2.2
  have hl : lv_has ls 5 [(0, .ref a), (1, .int x), (2, .ref b), (3, .int y), (4, .int z)] := hl
  refine lv_aload_n hx hb dX3_init_0 rfl (lv_at hl 0 rfl) ?_
  refine W.objInit hx hb hown (hts _ lk_X3_3) (hts _ im_obj) (hts _ cd_obj) rfl (by rw [hml]; exact hl.1) rfl dX3_init_1 (Nat.le_of_ble_eq_true rfl) (Nat.le_of_ble_eq_true rfl) ?_
  refine W.eq (g2 := F0 m 4 ls []) rfl ?_
  refine lv_aload_n hx hb dX3_init_4 rfl (lv_at hl 0 rfl) ?_
  refine lv_bipush (v := 119) hx hb dX3_init_5 (by decide) ?_
  refine w_put E (C := RX3) (T := TX3) (N := 7) (ci := 6) ly_X3 tyX3 tyX3_ok nmX3 hS hP ha rfl 4 (by decide) rfl fk_X3_9 rfl (by decide) rfl (by decide : 4 < 7) dX3_init_7 (fun H1 locs1 hP z1 oq1 hS => ?_)
  refine lv_aload_n hx hb dX3_init_10 rfl (lv_at hl 0 rfl) ?_
  refine lv_null hx hb dX3_init_11 ?_
  refine w_put E (C := RX3) (T := TX3) (N := 7) (ci := 6) ly_X3 tyX3 tyX3_ok nmX3 hS hP ha rfl 5 (by decide) rfl fk_X3_15 rfl rfl rfl (by decide : 5 < 7) dX3_init_12 (fun H1 locs1 hP z1 oq1 hS => ?_)
  refine lv_aload_n hx hb dX3_init_15 rfl (lv_at hl 0 rfl) ?_
  refine lv_iconst (v := 0) hx hb dX3_init_16 (by decide) ?_
  refine w_put E (C := RX3) (T := TX3) (N := 7) (ci := 6) ly_X3 tyX3 tyX3_ok nmX3 hS hP ha rfl 6 (by decide) rfl fk_X3_19 rfl rfl rfl (by decide : 6 < 7) dX3_init_17 (fun H1 locs1 hP z1 oq1 hS => ?_)
  refine lv_aload_n hx hb dX3_init_20 rfl (lv_at hl 0 rfl) ?_
  refine lv_iload_n hx hb dX3_init_21 rfl (lv_at hl 1 rfl) ?_
  refine w_putF E kcX3 hnm hS hP ha 0 (by decide) rfl fk_X3_23 rfl rfl rfl (by decide : 0 < 7) dX3_init_22 (fun H1 locs1 hP z1 oq1 hS => ?_)
  refine lv_aload_n hx hb dX3_init_25 rfl (lv_at hl 0 rfl) ?_
  refine lv_aload_n hx hb dX3_init_26 rfl (lv_at hl 2 rfl) ?_
  refine w_putF E kcX3 hnm hS hP ha 1 (by decide) rfl fk_X3_26 rfl rfl rfl (by decide : 1 < 7) dX3_init_27 (fun H1 locs1 hP z1 oq1 hS => ?_)
  refine lv_aload_n hx hb dX3_init_30 rfl (lv_at hl 0 rfl) ?_
  refine lv_iload_n hx hb dX3_init_31 rfl (lv_at hl 3 rfl) ?_
  refine w_put E (C := RX3) (T := TX3) (N := 7) (ci := 6) ly_X3 tyX3 tyX3_ok nmX3 hS hP ha rfl 2 (by decide) rfl fk_X3_30 rfl rfl rfl (by decide : 2 < 7) dX3_init_32 (fun H1 locs1 hP z1 oq1 hS => ?_)
  refine lv_aload_n hx hb dX3_init_35 rfl (lv_at hl 0 rfl) ?_
  refine lv_iload hx hb dX3_init_36 (lv_at hl 4 rfl) ?_
  refine w_put E (C := RX3) (T := TX3) (N := 7) (ci := 6) ly_X3 tyX3 tyX3_ok nmX3 hS hP ha rfl 3 (by decide) rfl fk_X3_33 rfl rfl rfl (by decide : 3 < 7) dX3_init_38 (fun H1 locs1 hP z1 oq1 hS => ?_)
  exact ct_vret E hr hk hS ⟨rfl, hP⟩ dX3_init_41

set_option maxHeartbeats 4000000 in
set_option maxRecDepth 100000 in
theorem c_X3_isIn (l : Launch) (g : cG) (F : Nat → Prop) (a b : Nat) (st : Int32) (lf : Option Nat) (P : Heap → Prop) (hPl : ∀ H, P H → ∃ fs, va_at g.1 vwCl (a, .inr (6, fs)) H ∧ fs[4]? = some (.int st) ∧ fs[5]? = some (va_rf lf)) : CT l yX3_isIn cX3_isIn 2 (some .boolean) 0 0 0 0 g F [.ref a, .ref b] P (fun v H => v = some (.int (b2i (st = 97 ∧ lf = some b))) ∧ P H) := by
  refine CT.of (by decide) rfl ?_
  intro p e s m args below meth c E hr hk hnm hP ls hl
  have hS : va_S (nF F) s.heap s.heap [] := va_S.rf
  have hx := E.1
  have hb := E.2.1
  have hml := E.2.2.1
  have hown := E.2.2.2.1
  have hts := E.2.2.2.2.1
  have hG := E.2.2.2.2.2
  have hl : lv_has ls 2 [(0, .ref a), (1, .ref b)] := hl
  obtain ⟨fs, h1, h2, h3⟩ := hPl _ hP
  refine lv_aload_n hx hb dX3_isIn_0 rfl (lv_at hl 0 rfl) ?_
  refine w_get E (C := RX3) (T := TX3) (N := 7) (ci := 6) ly_X3 h1 rfl 4 (by decide) rfl fk_X3_9 h2 dX3_isIn_1 ?_
  refine lv_bipush (v := 97) hx hb dX3_isIn_4 (by decide) ?_
  refine lv_icmp_ne (tgt := 21) hx hb dX3_isIn_6 (by decide) (fun c1 => ?_) (fun c1 => ?_)
  · refine lv_iconst (v := 0) hx hb dX3_isIn_21 (by decide) ?_
    exact ct_zret E hr (by decide) hk hS ⟨by rw [b2i_f (fun z => c1 z.1)], hP⟩ dX3_isIn_22
  · refine lv_aload_n hx hb dX3_isIn_9 rfl (lv_at hl 0 rfl) ?_
    refine w_get E (C := RX3) (T := TX3) (N := 7) (ci := 6) ly_X3 h1 rfl 5 (by decide) rfl fk_X3_15 h3 dX3_isIn_10 ?_
    refine lv_aload_n hx hb dX3_isIn_13 rfl (lv_at hl 1 rfl) ?_
    refine lv_acmp_ne (tgt := 21) (rx := lf) (ry := some b) hx hb dX3_isIn_14 (by decide) (fun c2 => ?_) (fun c2 => ?_)
    · refine lv_iconst (v := 0) hx hb dX3_isIn_21 (by decide) ?_
      exact ct_zret E hr (by decide) hk hS ⟨by rw [b2i_f (fun z => c2 z.2)], hP⟩ dX3_isIn_22
    · refine lv_iconst (v := 1) hx hb dX3_isIn_17 (by decide) ?_
      refine lv_goto (tgt := 22) hx hb dX3_isIn_18 (by decide) ?_
      exact ct_zret E hr (by decide) hk hS ⟨by rw [b2i_t ⟨c1, c2⟩], hP⟩ dX3_isIn_22

set_option maxHeartbeats 4000000 in
set_option maxRecDepth 100000 in
theorem c_X3_waitsFor (l : Launch) (g : cG) (F : Nat → Prop) (a b : Nat) (st : Int32) (lf : Option Nat) (P : Heap → Prop) (hPl : ∀ H, P H → ∃ fs, va_at g.1 vwCl (a, .inr (6, fs)) H ∧ fs[4]? = some (.int st) ∧ fs[5]? = some (va_rf lf)) : CT l yX3_waitsFor cX3_waitsFor 2 (some .boolean) 0 0 0 0 g F [.ref a, .ref b] P (fun v H => v = some (.int (b2i (st = 119 ∧ lf = some b))) ∧ P H) := by
  refine CT.of (by decide) rfl ?_
  intro p e s m args below meth c E hr hk hnm hP ls hl
  have hS : va_S (nF F) s.heap s.heap [] := va_S.rf
  have hx := E.1
  have hb := E.2.1
  have hml := E.2.2.1
  have hown := E.2.2.2.1
  have hts := E.2.2.2.2.1
  have hG := E.2.2.2.2.2
  have hl : lv_has ls 2 [(0, .ref a), (1, .ref b)] := hl
  obtain ⟨fs, h1, h2, h3⟩ := hPl _ hP
  refine lv_aload_n hx hb dX3_waitsFor_0 rfl (lv_at hl 0 rfl) ?_
  refine w_get E (C := RX3) (T := TX3) (N := 7) (ci := 6) ly_X3 h1 rfl 4 (by decide) rfl fk_X3_9 h2 dX3_waitsFor_1 ?_
  refine lv_bipush (v := 119) hx hb dX3_waitsFor_4 (by decide) ?_
  refine lv_icmp_ne (tgt := 21) hx hb dX3_waitsFor_6 (by decide) (fun c1 => ?_) (fun c1 => ?_)
  · refine lv_iconst (v := 0) hx hb dX3_waitsFor_21 (by decide) ?_
    exact ct_zret E hr (by decide) hk hS ⟨by rw [b2i_f (fun z => c1 z.1)], hP⟩ dX3_waitsFor_22
  · refine lv_aload_n hx hb dX3_waitsFor_9 rfl (lv_at hl 0 rfl) ?_
    refine w_get E (C := RX3) (T := TX3) (N := 7) (ci := 6) ly_X3 h1 rfl 5 (by decide) rfl fk_X3_15 h3 dX3_waitsFor_10 ?_
    refine lv_aload_n hx hb dX3_waitsFor_13 rfl (lv_at hl 1 rfl) ?_
    refine lv_acmp_ne (tgt := 21) (rx := lf) (ry := some b) hx hb dX3_waitsFor_14 (by decide) (fun c2 => ?_) (fun c2 => ?_)
    · refine lv_iconst (v := 0) hx hb dX3_waitsFor_21 (by decide) ?_
      exact ct_zret E hr (by decide) hk hS ⟨by rw [b2i_f (fun z => c2 z.2)], hP⟩ dX3_waitsFor_22
    · refine lv_iconst (v := 1) hx hb dX3_waitsFor_17 (by decide) ?_
      refine lv_goto (tgt := 22) hx hb dX3_waitsFor_18 (by decide) ?_
      exact ct_zret E hr (by decide) hk hS ⟨by rw [b2i_t ⟨c1, c2⟩], hP⟩ dX3_waitsFor_22

set_option maxHeartbeats 4000000 in
set_option maxRecDepth 100000 in
theorem c_X2_cleanForOneTick (l : Launch) (g : cG) (F : Nat → Prop) (a : Nat) (v0 v1 v2 v3 : Value) (sv cl : Int32) (ha : ¬ F a) : CT l yX2_cleanForOneTick cX2_cleanForOneTick 1 none 0 0 0 0 g F [.ref a] (fun H => va_at g.1 vwCl (a, .inr (5, [v0, v1, v2, v3, .int sv, .int cl])) H) (fun v H => v = none ∧ va_at g.1 vwCl (a, .inr (5, [v0, v1, v2, v3, .int (if 0 < cl - 1 then sv else 115), .int (cl - 1)])) H) := by
  refine CT.of (by decide) rfl ?_
  intro p e s m args below meth c E hr hk hnm hP ls hl
  have hS : va_S (nF F) s.heap s.heap [] := va_S.rf
  have hx := E.1
  have hb := E.2.1
  have hml := E.2.2.1
  have hown := E.2.2.2.1
  have hts := E.2.2.2.2.1
  have hG := E.2.2.2.2.2
  have hl : lv_has ls 1 [(0, .ref a)] := hl
  refine lv_aload_n hx hb dX2_cleanForOneTick_0 rfl (lv_at hl 0 rfl) ?_
  refine lv_dup hx hb dX2_cleanForOneTick_1 rfl ?_
  refine w_get E (C := RX2) (T := TX2) (N := 6) (ci := 5) ly_X2 hP rfl 5 (by decide) rfl fk_X2_23 rfl dX2_cleanForOneTick_2 ?_
  refine lv_iconst (v := 1) hx hb dX2_cleanForOneTick_5 (by decide) ?_
  refine lv_isub hx hb dX2_cleanForOneTick_6 ?_
  refine w_put E (C := RX2) (T := TX2) (N := 6) (ci := 5) ly_X2 tyX2 tyX2_ok nmX2 hS hP ha rfl 5 (by decide) rfl fk_X2_23 rfl rfl rfl (by decide : 5 < 6) dX2_cleanForOneTick_7 (fun H1 locs1 hP z1 oq1 hS => ?_)
  refine lv_aload_n hx hb dX2_cleanForOneTick_10 rfl (lv_at hl 0 rfl) ?_
  refine w_get E (C := RX2) (T := TX2) (N := 6) (ci := 5) ly_X2 hP rfl 5 (by decide) rfl fk_X2_23 rfl dX2_cleanForOneTick_11 ?_
  refine lv_if_gt (tgt := 23) hx hb dX2_cleanForOneTick_14 (by decide) (fun c1 => ?_) (fun c1 => ?_)
  · exact ct_vret E hr hk hS ⟨rfl, by rw [if_pos c1]; exact hP⟩ dX2_cleanForOneTick_23
  · refine lv_aload_n hx hb dX2_cleanForOneTick_17 rfl (lv_at hl 0 rfl) ?_
    refine lv_bipush (v := 115) hx hb dX2_cleanForOneTick_18 (by decide) ?_
    refine w_put E (C := RX2) (T := TX2) (N := 6) (ci := 5) ly_X2 tyX2 tyX2_ok nmX2 hS hP ha rfl 4 (by decide) rfl fk_X2_19 rfl (by decide) rfl (by decide : 4 < 6) dX2_cleanForOneTick_20 (fun H1 locs1 hP z1 oq1 hS => ?_)
    exact ct_vret E hr hk hS ⟨rfl, by rw [if_neg c1]; exact hP⟩ dX2_cleanForOneTick_23
end
section
/-! adding to a list, taking out of one; new objects -/
def PDh (g : cG) (F : Nat → Prop) (B : Nat → Nat → Nat) (nm : Nat → Nat × Nat) (nb nl nr ne : Nat) (pr : List Nat) (t : TT) (j : Nat) (H : Heap) : Prop :=
  (∀ k i, i < dN nb nl nr ne k → k ≠ 3 → nm (B k i) = (k, i) ∧ ¬ F (B k i)) ∧
  (∀ k i, i < dN nb nl nr ne k → kOb k → va_at g.1 vwCl (B k i, .inr (dO B t k i)) H) ∧
  (∀ j2, j2 < 3 → va_at g.1 vwCl (B 1 j2, .inl (g.2.1 0, 10, .inl (t (j2 + 1)))) H) ∧
  (∀ j2, j2 < 5 → (B 3 j2 ≠ g.2.2.1 → nm (B 3 j2) = (3, j2)) ∧ (j2 ≠ j → AL g F (B 2 j2) (B 3 j2) (dEl B nb nl nr ne pr j2) H)) ∧
  F g.2.2.1 ∧ (∀ q, F q → q < H.size)
section PH
variable {g : cG} {F : Nat → Prop} {A B B2 : Nat → Nat → Nat} {nm : Nat → Nat × Nat} {nb nl nr ne nb2 nl2 nr2 ne2 j : Nat} {pr pr2 : List Nat} {t t2 : TT} {H H1 : Heap}
theorem PDc.hole (h : PDc g F B nm nb nl nr ne pr t H) : PDh g F B nm nb nl nr ne pr t j H :=
  ⟨h.1, h.2.1, h.2.2.1, fun j2 hj2 => ⟨(h.2.2.2.1 j2 hj2).1, fun _ => (h.2.2.2.1 j2 hj2).2⟩, h.2.2.2.2.1, h.2.2.2.2.2.1⟩
theorem PDh.ap (h : PDh g F B nm nb nl nr ne pr t j H) {k i k2 i2 : Nat} (hk : k ≠ 3) (hi : i < dN nb nl nr ne k) (hk2 : k2 ≠ 3) (hi2 : i2 < dN nb nl nr ne k2) (hn : ¬ (k2 = k ∧ i2 = i)) : B k2 i2 ≠ B k i := fun e => by
  have x := (h.1 k2 i2 hi2 hk2).1
  rw [e, (h.1 k i hi hk).1] at x
  have y := Prod.mk.inj x
  exact hn ⟨y.1.symm, y.2.symm⟩
theorem PDh.ap3 (h : PDh g F B nm nb nl nr ne pr t j H) {k i j2 : Nat} (hk : k ≠ 3) (hi : i < dN nb nl nr ne k) (hj : j2 < 5) (hF : ¬ F (B 3 j2)) : B k i ≠ B 3 j2 := fun e => by
  have x := (h.2.2.2.1 j2 hj).1 (fun z => hF (by rw [z]; exact h.2.2.2.2.1))
  rw [← e, (h.1 k i hi hk).1] at x
  exact hk (Prod.mk.inj x).1
theorem PDh.ap33 (h : PDh g F B nm nb nl nr ne pr t j H) {j1 j2 : Nat} (hj : j1 < 5) (hj2 : j2 < 5) (hF : ¬ F (B 3 j1)) (hF2 : ¬ F (B 3 j2)) (hn : j2 ≠ j1) : B 3 j2 ≠ B 3 j1 := fun e => by
  have x := (h.2.2.2.1 j2 hj2).1 (fun z => hF2 (by rw [z]; exact h.2.2.2.2.1))
  have y := (h.2.2.2.1 j1 hj).1 (fun z => hF (by rw [z]; exact h.2.2.2.2.1))
  rw [e, y] at x
  exact hn (Prod.mk.inj x).2.symm
/-- the whole again, with a new list j and its array at q1 -/
theorem PDh.close (h : PDh g F B nm nb nl nr ne pr t j H) (hj : j < 5) {q1 : Nat} (hq1 : q1 = B 3 j ∨ H.size ≤ q1) (hpr : ∀ j2, j2 < 5 → j2 ≠ j → dEl B nb nl nr ne pr2 j2 = dEl B nb nl nr ne pr j2) (hd : DI nb nl nr ne pr2 t)
    (hal : AL g F (B 2 j) q1 (dEl B nb nl nr ne pr2 j) H1) (oq : ∀ q, q < H.size → q ≠ B 2 j → (q = B 3 j → F q) → H1[q]? = H[q]?) (hz : H.size ≤ H1.size) (hlt : ∀ j2, j2 < 5 → j2 ≠ j → ¬ F (B 3 j2) → B 3 j2 < H.size) (hl2 : ∀ j2, j2 < 5 → B 2 j2 < H.size) :
    ∃ (B2 : Nat → Nat → Nat) (nm2 : Nat → Nat × Nat), (∀ k, k ≠ 3 → B2 k = B k) ∧ PDc g F B2 nm2 nb nl nr ne pr2 t H1 := by
  have keep : ∀ k i, i < dN nb nl nr ne k → k ≠ 3 → ¬ (k = 2 ∧ i = j) → B k i < H.size → H1[B k i]? = H[B k i]? := fun k i a b c d =>
    oq _ d (h.ap (k := 2) (i := j) (by decide) (by exact hj) b a c) (fun e => Classical.byContradiction (p := F (B k i)) (fun z => h.ap3 b a hj (by rw [← e]; exact z) e))
  generalize hB2 : (fun k i => if k = 3 ∧ i = j then q1 else B k i : Nat → Nat → Nat) = B2
  generalize hn2 : (fun x => if H.size ≤ x then (3, j) else nm x : Nat → Nat × Nat) = nm2
  have e1 : ∀ k, k ≠ 3 → B2 k = B k := fun k hk => by rw [← hB2]; funext i; simp [hk]
  have e3 : ∀ j2, j2 ≠ j → B2 3 j2 = B 3 j2 := fun j2 hj2 => by rw [← hB2]; simp [hj2]
  have e3j : B2 3 j = q1 := by rw [← hB2]; simp
  have en : ∀ x, x < H.size → nm2 x = nm x := fun x hx => by rw [← hn2]; simp [Nat.not_le.mpr hx]
  have eo : ∀ k i, dO B2 t k i = dO B t k i := fun k i => dO_cg (e1 1 (by decide)) (e1 2 (by decide)) (e1 4 (by decide)) (e1 5 (by decide)) k i
  have ee : ∀ j2, dEl B2 nb nl nr ne pr2 j2 = dEl B nb nl nr ne pr2 j2 := fun j2 => by unfold dEl; simp only [e1 4 (by decide), e1 5 (by decide), e1 6 (by decide), e1 7 (by decide)]
  have lts : ∀ k i, i < dN nb nl nr ne k → k ≠ 3 → B k i < H.size := fun k i a b => by
    by_cases c1 : k = 1
    · subst c1; exact (h.2.2.1 i a).lt
    · by_cases c2 : k = 2
      · subst c2; exact hl2 i a
      · refine (h.2.1 k i a ?_).lt
        have : k ≤ 7 := by
          refine Nat.le_of_not_lt (fun z => ?_)
          unfold dN at a
          split at a <;> omega
        unfold kOb; omega
  have hob : ∀ k i, i < dN nb nl nr ne k → kOb k → va_at g.1 vwCl (B2 k i, .inr (dO B2 t k i)) H1 := fun k i a b => by
    have hk3 : k ≠ 3 := by unfold kOb at b; omega
    rw [eo, e1 k hk3]
    exact (h.2.1 k i a b).kept (keep k i a hk3 (by unfold kOb at b; omega) (lts k i a hk3))
  refine ⟨B2, nm2, e1, fun k i a b => ?_, hob, fun j2 hj2 => ?_, fun j2 hj2 => ⟨fun he => ?_, ?_⟩, h.2.2.2.2.1, fun q hq => Nat.lt_of_lt_of_le (h.2.2.2.2.2 q hq) hz, hd⟩
  · rw [e1 k b, en _ (lts k i a b)]; exact h.1 k i a b
  · rw [e1 1 (by decide)]
    exact (h.2.2.1 j2 hj2).kept (keep 1 j2 (by exact hj2) (by decide) (by omega) (lts 1 j2 (by exact hj2) (by decide)))
  · by_cases c : j2 = j
    · subst c
      rw [e3j] at he ⊢
      rcases Nat.lt_or_ge q1 H.size with hq | hq
      · rcases hq1 with rfl | hq1
        · rw [en _ hq]; exact (h.2.2.2.1 j2 hj2).1 he
        · exact absurd hq (by omega)
      · rw [← hn2]; simp [hq]
    · rw [e3 j2 c] at he ⊢
      have h9 := (h.2.2.2.1 j2 hj2).2 c
      have hlt2 : B 3 j2 < H.size := by
        rcases h9.2.2.2 with ⟨-, z⟩ | ⟨z, -⟩
        · exact absurd z he
        · exact hlt j2 hj2 c z
      rw [en _ hlt2]; exact (h.2.2.2.1 j2 hj2).1 he
  · rw [ee, e1 2 (by decide)]
    by_cases c : j2 = j
    · subst c; rw [e3j]; exact hal
    · rw [e3 j2 c, hpr j2 hj2 c]
      refine ((h.2.2.2.1 j2 hj2).2 c).kept (keep 2 j2 (by exact hj2) (by decide) (by omega) (lts 2 j2 (by exact hj2) (by decide))) (fun hF => ?_) (fun y hy => ?_)
      · exact oq _ (hlt j2 hj2 c hF) (fun e => h.ap3 (k := 2) (i := j) (by decide) (by exact hj) hj2 hF e.symm) (fun e => Classical.byContradiction (p := F (B 3 j2)) (fun z => h.ap33 hj hj2 (by rw [← e]; exact z) z c e))
      · rw [← hpr j2 hj2 c] at hy
        obtain ⟨k2, i2, a, b, rfl⟩ := dEl_mem hd.2.1 hy
        have hk3 : k2 ≠ 3 := by omega
        have q := hob k2 i2 b (Or.inr a)
        rw [e1 k2 hk3] at q
        exact ⟨(dO B2 t k2 i2).1, (dO B2 t k2 i2).2, dO_ci a.1 a.2, q⟩
/-- a new object in the picture -/
theorem PDh.birth (h : PDh g F B nm nb nl nr ne pr t j H) {z kz iz : Nat} (hkz : 4 ≤ kz ∧ kz ≤ 7) (hdn : ∀ k i, i < dN nb2 nl2 nr2 ne2 k → i < dN nb nl nr ne k ∨ (k = kz ∧ i = iz)) (hiz : ¬ iz < dN nb nl nr ne kz) (hzF : ¬ F z)
    (hz : ∀ k i, i < dN nb nl nr ne k → k ≠ 3 → B k i ≠ z) (hz3 : ∀ j2, j2 < 5 → B 3 j2 ≠ z) (hB2 : B2 = fun k i => if k = kz ∧ i = iz then z else B k i)
    (ht : ∀ k i, i < dN nb nl nr ne k → kOb k → dO B2 t2 k i = dO B t k i) (ha : ∀ j2, j2 < 3 → t2 (j2 + 1) = t (j2 + 1)) (hel : ∀ j2, j2 < 5 → j2 ≠ j → dEl B2 nb2 nl2 nr2 ne2 pr j2 = dEl B nb nl nr ne pr j2)
    (hc : va_at g.1 vwCl (z, .inr (dO B2 t2 kz iz)) H) : ∃ nm2, PDh g F B2 nm2 nb2 nl2 nr2 ne2 pr t2 j H := by
  have eB : ∀ k i, ¬ (k = kz ∧ i = iz) → B2 k i = B k i := fun k i c => by rw [hB2]; simp only [if_neg c]
  have eZ : B2 kz iz = z := by rw [hB2]; simp
  refine ⟨fun x => if x = z then (kz, iz) else nm x, fun k i a b => ?_, fun k i a b => ?_, fun j2 hj2 => ?_, fun j2 hj2 => ⟨fun he => ?_, fun c => ?_⟩, h.2.2.2.2.1, h.2.2.2.2.2⟩
  · by_cases c : k = kz ∧ i = iz
    · obtain ⟨rfl, rfl⟩ := c
      rw [eZ]; exact ⟨by simp, hzF⟩
    · have a2 := (hdn k i a).resolve_right c
      rw [eB k i c]
      exact ⟨by simp only [if_neg (hz k i a2 b)]; exact (h.1 k i a2 b).1, (h.1 k i a2 b).2⟩
  · by_cases c : k = kz ∧ i = iz
    · obtain ⟨rfl, rfl⟩ := c
      rw [eZ]; exact hc
    · have a2 := (hdn k i a).resolve_right c
      rw [eB k i c, ht k i a2 b]
      exact h.2.1 k i a2 b
  · rw [eB 1 j2 (by omega), ha j2 hj2]
    exact h.2.2.1 j2 hj2
  · rw [eB 3 j2 (by omega)] at he ⊢
    simp only [if_neg (hz3 j2 hj2)]
    exact (h.2.2.2.1 j2 hj2).1 he
  · rw [hel j2 hj2 c, eB 3 j2 (by omega), eB 2 j2 (by omega)]
    exact (h.2.2.2.1 j2 hj2).2 c
end PH
section DL
variable {p : Program} {l : Launch} {e : Env} {R : Room} {s : State} {m : MethodId} {args : Array Value} {below : List Frame} {meth : Method} {c : Code} {H : Heap} {locs : List Loc} {cells slots : Nat} {Q : State → Prop}
variable {cc : ByteArray} {pc nL : Nat} {ls : Array Slot} {rest : List Value} {g : cG} {F F1 : Nat → Prop} {H0 : Heap}
variable {A : Nat → Nat → Nat} {nb nl nr ne : Nat} {pr : List Nat} {t : TT}
/-- the cells that a call on the list at a with its array at q leaves alone -/
abbrev fL (F : Nat → Prop) (a q sz : Nat) : Nat → Prop := fun z => F z ∨ (z < sz ∧ z ≠ a ∧ (z = q → F q))
theorem AL.toF {a q : Nat} {els : List Nat} {sz : Nat} (h : AL g F a q els H) : AL g (fL F a q sz) a q els H := by
  obtain ⟨h1, h2, h3, h4⟩ := h
  refine ⟨fun z => z.elim h1 (fun z => z.2.1 rfl), h2, h3, ?_⟩
  rcases h4 with h4 | ⟨h5, h6, h7⟩
  · exact Or.inl h4
  · exact Or.inr ⟨fun z => z.elim h5 (fun z => h5 (z.2.2 rfl)), h6, h7⟩
theorem AL.ofF {a q q1 : Nat} {els : List Nat} {sz : Nat} (h : AL g (fL F a q sz) a q1 els H) : AL g F a q1 els H := by
  obtain ⟨h1, h2, h3, h4⟩ := h
  refine ⟨fun z => h1 (Or.inl z), h2, h3, ?_⟩
  rcases h4 with h4 | ⟨h5, h6, h7⟩
  · exact Or.inl h4
  · exact Or.inr ⟨fun z => h5 (Or.inl z), h6, h7⟩
theorem d_add (E : EN p s m c cc nL args RX4 g F) (hS : va_S (nF F) s.heap H locs) {a q x : Nat} {els : List Nat} (hal : AL g F a q els H) (hfs : ∀ z, F z → z < H.size) (hx : AO g x H) (hxa : x ≠ a) (hxq : ¬ F q → x ≠ q) (hy : ∀ y ∈ els, y ≠ a ∧ (¬ F q → y ≠ q)) (hn : els.length ≤ 99) {lv : List (Nat × Value)} (hls : lv_has ls nL lv) (hR : Nat.ble 7 R.frames = true ∧ Nat.ble 194 R.locals = true) (hf : cells + 1 ≤ R.cells ∧ slots + 150 ≤ R.slots) (hd : decode cc pc = .ok (.invokevirtual 72, 3)) (hst : Nat.ble (rest.map fun v => v.category).sum 8 = true := by rfl)
    (kk : ∀ (q1 : Nat) (H1 : Heap) (locs1 : List Loc), (q1 = q ∨ H.size ≤ q1) → AL g F a q1 (els ++ [x]) H1 → (∀ z, z < H.size → z ≠ a → (z = q → F z) → H1[z]? = H[z]?) → H.size ≤ H1.size → va_S (nF F) s.heap H1 locs1 → W p l e R s m args below meth c H1 locs1 (cells + 1) (slots + 150) Q (F0 m (pc + 3) ls (.int 1 :: rest))) : W p l e R s m args below meth c H locs cells slots Q (F0 m pc ls (.ref x :: .ref a :: rest)) := by
  have inF : ∀ z, z < H.size → z ≠ a → (¬ F q → z ≠ q) → fL F a q H.size z := fun z h1 h2 h3 => Or.inr ⟨h1, h2, fun e => Classical.byContradiction (p := F q) (fun n => h3 n e)⟩
  refine ct_VF (F1 := fL F a q H.size) (fun z h => Or.inl h) E hS (c_AL_add l g (fL F a q H.size) a q x H.size els (fun z hz => hz.elim (hfs z) (fun z => z.1)) (inF x hx.lt hxa hxq) (fun y h9 => inF y (hal.2.2.1 y h9).lt (hy y h9).1 (hy y h9).2) hn) ok_Jx4a65c_add_9ea2d lk_X4_72 ⟨rfl, hal.toF, hx⟩ (AL.recv E.2.2.2.2.2 hal) rfl hls hR hst hf hd rfl (fun v9 H1 locs1 hv9 hS1 hz hfr => ?_)
  obtain ⟨rfl, q1, h1, h2⟩ := hv9
  exact kk q1 H1 locs1 h1 h2.ofF (fun z h3 h4 h5 => hfr z h3 (Or.inr ⟨h3, h4, fun e => by rw [← e]; exact h5 e⟩)) hz hS1
theorem d_rem (E : EN p s m c cc nL args RX4 g F) (hS : va_S (nF F) s.heap H locs) {a q i y : Nat} {x : Int32} {els : List Nat} (hxi : x = nI i) (hal : AL g F a q els H) (hfs : ∀ z, F z → z < H.size) (hyi : els[i]? = some y) (hy : ∀ y ∈ els, y ≠ a ∧ (¬ F q → y ≠ q)) (hn : els.length ≤ 99) {lv : List (Nat × Value)} (hls : lv_has ls nL lv) (hR : Nat.ble 3 R.frames = true ∧ Nat.ble 113 R.locals = true) (hf : cells ≤ R.cells ∧ slots ≤ R.slots) (hd : decode cc pc = .ok (.invokevirtual 284, 3)) (hst : Nat.ble (rest.map fun v => v.category).sum 8 = true := by rfl)
    (kk : ∀ (H1 : Heap) (locs1 : List Loc), AL g F a q (els.eraseIdx i) H1 → (∀ z, z < H.size → z ≠ a → (z = q → F z) → H1[z]? = H[z]?) → H.size ≤ H1.size → va_S (nF F) s.heap H1 locs1 → W p l e R s m args below meth c H1 locs1 cells slots Q (F0 m (pc + 3) ls (.ref y :: rest))) : W p l e R s m args below meth c H locs cells slots Q (F0 m pc ls (.int x :: .ref a :: rest)) := by
  subst hxi
  have inF : ∀ z, z < H.size → z ≠ a → (¬ F q → z ≠ q) → fL F a q H.size z := fun z h1 h2 h3 => Or.inr ⟨h1, h2, fun e => Classical.byContradiction (p := F q) (fun n => h3 n e)⟩
  refine ct_VF (F1 := fL F a q H.size) (fun z h => Or.inl h) E hS (c_AL_remove l g (fL F a q H.size) a q i y H.size els hyi (fun z hz => hz.elim (hfs z) (fun z => z.1)) (fun y h9 => inF y (hal.2.2.1 y h9).lt (hy y h9).1 (hy y h9).2) ((List.getElem?_eq_some_iff.mp hyi).1) hn) ok_Jx4a65c_remove_915e3 lk_X4_284 ⟨rfl, hal.toF⟩ (AL.recv E.2.2.2.2.2 hal) rfl hls hR hst hf hd rfl (fun v9 H1 locs1 hv9 hS1 hz hfr => ?_)
  obtain ⟨rfl, h2⟩ := hv9
  exact kk H1 locs1 h2.ofF (fun z h3 h4 h5 => hfr z h3 (Or.inr ⟨h3, h4, fun e => by rw [← e]; exact h5 e⟩)) hz hS1
/-- is a rider in a lift, does one wait for it -/
theorem d_isIn (E : EN p s m c cc nL args RX4 g F) (hS : va_S (nF F) s.heap H locs) (hP : PD g F A nb nl nr ne pr t H) {r q : Nat} (hr : r < nr) (hq : q < nl) {lv : List (Nat × Value)} (hls : lv_has ls nL lv) (hR : Nat.ble 1 R.frames = true ∧ Nat.ble 21 R.locals = true) (hf : cells ≤ R.cells ∧ slots ≤ R.slots) (hd : decode cc pc = .ok (.invokevirtual 231, 3)) (hst : Nat.ble (rest.map fun v => v.category).sum 8 = true := by rfl)
    (kk : ∀ (locs1 : List Loc), va_S (nF F) s.heap H locs1 → W p l e R s m args below meth c H locs1 cells slots Q (F0 m (pc + 3) ls (.int (b2i (t 13 r = 97 ∧ t 10 r = nI q)) :: rest))) : W p l e R s m args below meth c H locs cells slots Q (F0 m pc ls (.ref (A 5 q) :: .ref (A 6 r) :: rest)) := by
  refine ct_VN E hS (c_X3_isIn l g F (A 6 r) (A 5 q) (t 13 r) (lref A (t 10 r)) (fun X => X = H) (fun H9 h9 => by subst h9; exact ⟨_, (hP.ob (k := 6) hr (by decide) (by decide)).1, rfl, rfl⟩)) ok_X3_isIn mn_X4_231 rfl (hP.recvK E.2.2.2.2.2 (k := 6) hr (by decide) (by decide) kcX3 rfl) rfl hls hR hst hf hd rfl (fun v9 H1 locs1 hv9 hS1 hz => ?_)
  obtain ⟨rfl, rfl⟩ := hv9
  have e1 : b2i (t 13 r = 97 ∧ lref A (t 10 r) = some (A 5 q)) = b2i (t 13 r = 97 ∧ t 10 r = nI q) := by simp only [lref_iff hP hr hq]
  rw [e1]
  exact kk locs1 hS1
theorem d_waitsFor (E : EN p s m c cc nL args RX4 g F) (hS : va_S (nF F) s.heap H locs) (hP : PD g F A nb nl nr ne pr t H) {r q : Nat} (hr : r < nr) (hq : q < nl) {lv : List (Nat × Value)} (hls : lv_has ls nL lv) (hR : Nat.ble 1 R.frames = true ∧ Nat.ble 21 R.locals = true) (hf : cells ≤ R.cells ∧ slots ≤ R.slots) (hd : decode cc pc = .ok (.invokevirtual 256, 3)) (hst : Nat.ble (rest.map fun v => v.category).sum 8 = true := by rfl)
    (kk : ∀ (locs1 : List Loc), va_S (nF F) s.heap H locs1 → W p l e R s m args below meth c H locs1 cells slots Q (F0 m (pc + 3) ls (.int (b2i (t 13 r = 119 ∧ t 10 r = nI q)) :: rest))) : W p l e R s m args below meth c H locs cells slots Q (F0 m pc ls (.ref (A 5 q) :: .ref (A 6 r) :: rest)) := by
  refine ct_VN E hS (c_X3_waitsFor l g F (A 6 r) (A 5 q) (t 13 r) (lref A (t 10 r)) (fun X => X = H) (fun H9 h9 => by subst h9; exact ⟨_, (hP.ob (k := 6) hr (by decide) (by decide)).1, rfl, rfl⟩)) ok_X3_waitsFor mn_X4_256 rfl (hP.recvK E.2.2.2.2.2 (k := 6) hr (by decide) (by decide) kcX3 rfl) rfl hls hR hst hf hd rfl (fun v9 H1 locs1 hv9 hS1 hz => ?_)
  obtain ⟨rfl, rfl⟩ := hv9
  have e1 : b2i (t 13 r = 119 ∧ lref A (t 10 r) = some (A 5 q)) = b2i (t 13 r = 119 ∧ t 10 r = nI q) := by simp only [lref_iff hP hr hq]
  rw [e1]
  exact kk locs1 hS1
end DL
end
section
/-! what the desk's methods do, as functions of its table, its present list and the number of its entries -/
def dWhy (t : TT) (b : Nat) (f : Int32) : Int32 :=
  if f ≤ 0 then 110 else if f < 10 then (if t 5 b = 0 then (if t 1 f.toNatClampNeg = -1 then
    (if t 2 f.toNatClampNeg ≤ mTod t then (if mTod t < t 3 f.toNatClampNeg then 110 else 104) else 104)
    else (if t 1 f.toNatClampNeg = t 4 b then 110 else 116)) else 114) else 110
def dHas (t : TT) (pr : List Nat) (b n : Nat) : Bool := exB (fun i => decide (t 7 (pg pr i) = nI b)) n
def dAb (t : TT) (pr : List Nat) (q : Nat) : Nat → Int32
  | 0 => 0
  | i + 1 => dAb t pr q i + (if t 13 (pg pr i) = 97 ∧ t 10 (pg pr i) = nI q then 1 else 0)
abbrev dRoom (t : TT) (pr : List Nat) (q : Nat) : Prop := t 20 q = 115 ∧ dAb t pr q pr.length < t 17 q
def dTf (t : TT) (r : Nat) : Nat → Nat → Int32 → Int32
  | 0, _, c => t 23 0 - c
  | n + 1, i, c => if t 50 i = nI r then (if t 51 i = 119 then dTf t r n (i + 1) (t 52 i) else t 52 i - c) else dTf t r n (i + 1) c
def dSc (t : TT) (pr : List Nat) (q : Nat) (fl : Int32) : Nat → Int32
  | 0 => iabs (t 18 q - fl)
  | i + 1 => dSc t pr q fl i + (if t 10 (pg pr i) = nI q then 2 else 0)
abbrev dScore (t : TT) (pr : List Nat) (q : Nat) (fl : Int32) : Int32 := dSc t pr q fl pr.length
def dBst (t : TT) (pr : List Nat) (fl : Int32) : Nat → Option Nat
  | 0 => none
  | q + 1 => if t 20 q = 115 then (match dBst t pr fl q with
      | none => some q
      | some b => if dScore t pr b fl ≤ dScore t pr q fl then some b else some q) else dBst t pr fl q
def dGive (t : TT) (pr : List Nat) (nl r : Nat) : TT := tu t 10 r (oI (dBst t pr (t 8 r) nl))
def dGs (pr : List Nat) (nl : Nat) (t : TT) (r : Nat) : TT := if t 13 r = 119 then (if t 10 r < 0 then dGive t pr nl r else t) else t
def dGall (t : TT) (pr : List Nat) (nl : Nat) : Nat → TT
  | 0 => t
  | i + 1 => dGs pr nl (dGall t pr nl i) (pg pr i)
def dLs (q : Nat) (t : TT) (n : Int32) (r : Nat) : TT × Int32 := if t 13 r = 119 ∧ t 10 r = nI q then (tu t 10 r (-1), n + 1) else (t, n)
def dLose (t : TT) (pr : List Nat) (q : Nat) : Nat → TT × Int32
  | 0 => (t, 0)
  | i + 1 => dLs q (dLose t pr q i).1 (dLose t pr q i).2 (pg pr i)
def dLall (t : TT) (pr : List Nat) : Nat → TT
  | 0 => t
  | q + 1 => (dLose (dLall t pr q) pr q pr.length).1
def dTs (pr : List Nat) (nl : Nat) (f : Int32) (t : TT) (r : Nat) : TT := if t 13 r = 119 then (if t 8 r = f then dGive t pr nl r else t) else t
def dTall (t : TT) (pr : List Nat) (nl : Nat) (f : Int32) : Nat → TT
  | 0 => t
  | i + 1 => dTs pr nl f (dTall t pr nl f i) (pg pr i)
def dWt (t : TT) (pr : List Nat) (f : Int32) : Bool := exB (fun i => decide (t 13 (pg pr i) = 119) && decide (t 8 (pg pr i) = f)) pr.length
def dTn (t : TT) (pr : List Nat) : Nat → Nat → Int32
  | 0, _ => -1
  | n + 1, k => if dWt t pr (t 60 0 + nI k) = true then t 60 0 + nI k else if dWt t pr (t 60 0 - nI k) = true then t 60 0 - nI k else dTn t pr n (k + 1)
def dTurn (t : TT) (pr : List Nat) : Int32 := if t 60 0 = -1 then -1 else dTn t pr 10 0
def dInT (t : TT) (pr : List Nat) (nl : Nat) : TT := dTall (dLall t pr nl) pr nl (dTurn t pr) pr.length
def dCs (t : TT) (r : Nat) : TT := if t 13 r = 119 then tu t 40 r (t 40 r + 1) else t
def dCw (t : TT) (pr : List Nat) : Nat → TT
  | 0 => t
  | i + 1 => dCs (dCw t pr i) (pg pr i)
def dNote (t : TT) (ne r : Nat) : TT := tu (tu (tu t 50 ne (nI r)) 51 ne (t 13 r)) 52 ne (t 23 0)
def dAbo (t : TT) (ne r : Nat) : TT := dNote (tu t 13 r 97) ne r
def dFin (t : TT) (ne r : Nat) (f : Int32) : TT := dNote (tu (tu (tu t 13 r 100) 8 r f) 10 r (-1)) ne r
/-- a state: the table, the present, how many entries -/
abbrev DS : Type := TT × List Nat × Nat
def dLoS (q k : Nat) (s : DS) : DS :=
  if s.1 13 (pg s.2.1 k) = 97 ∧ s.1 10 (pg s.2.1 k) = nI q then (if s.1 9 (pg s.2.1 k) = s.1 18 q then
    (if dWhy s.1 (s.1 7 (pg s.2.1 k)).toNatClampNeg (s.1 18 q) = 110 then (dFin s.1 s.2.2 (pg s.2.1 k) (s.1 18 q), s.2.1.eraseIdx k, s.2.2 + 1)
      else (tu (tu s.1 9 (pg s.2.1 k) 0) 25 0 (s.1 25 0 + 1), s.2)) else s) else s
def dLo (q : Nat) : Nat → DS → DS
  | 0, s => s
  | k + 1, s => dLo q k (dLoS q k s)
def dLiS (q r : Nat) (s : DS) (a : Int32) : DS × Int32 :=
  if s.1 13 r = 119 ∧ s.1 10 r = nI q then (if s.1 8 r = s.1 18 q then (if dRoom s.1 s.2.1 q then ((dAbo s.1 s.2.2 r, s.2.1, s.2.2 + 1), 1) else (s, a)) else (s, a)) else (s, a)
def dLi (q : Nat) (s : DS) : Nat → DS × Int32
  | 0 => (s, 0)
  | i + 1 => dLiS q (pg s.2.1 i) (dLi q s i).1 (dLi q s i).2
def dAim (t : TT) (pr : List Nat) (q : Nat) (st mo : Int32) : Bool :=
  exB (fun i => (decide (t 13 (pg pr i) = 97 ∧ t 10 (pg pr i) = nI q) && decide (0 < (t 9 (pg pr i) - t 18 q) * st)) || (!decide (mo = 0) && decide (t 13 (pg pr i) = 119 ∧ t 10 (pg pr i) = nI q) && decide (0 < (t 8 (pg pr i) - t 18 q) * st))) pr.length
def dStep (t : TT) (q : Nat) : Int32 := if t 21 q = 0 then -1 else 1
def dMove (t : TT) (pr : List Nat) (q : Nat) : TT :=
  if dAim t pr q (dStep t q) (b2i (dRoom t pr q)) = true then tu t 18 q (t 18 q + dStep t q)
  else if dAim t pr q (-(dStep t q)) (b2i (dRoom t pr q)) = true then tu (tu t 21 q (if t 21 q = 0 then 1 else 0)) 18 q (t 18 q - dStep t q)
  else if t 20 q = 111 then tu (tu t 20 q 99) 19 q 20 else t
def dClean (t : TT) (q : Nat) : TT := tu (tu t 19 q (t 19 q - 1)) 20 q (if 0 < t 19 q - 1 then t 20 q else 115)
def dRun (q : Nat) (s : DS) : DS :=
  if s.1 20 q = 99 then (dClean s.1 q, s.2) else
    if (dLo q s.2.1.length s).2.1.length < s.2.1.length ∨ ¬ (dLi q (dLo q s.2.1.length s) (dLo q s.2.1.length s).2.1.length).2 = 0 then
      (tu (dLi q (dLo q s.2.1.length s) (dLo q s.2.1.length s).2.1.length).1.1 24 0 ((dLi q (dLo q s.2.1.length s) (dLo q s.2.1.length s).2.1.length).1.1 24 0 + 1), (dLi q (dLo q s.2.1.length s) (dLo q s.2.1.length s).2.1.length).1.2)
    else (dMove (dLi q (dLo q s.2.1.length s) (dLo q s.2.1.length s).2.1.length).1.1 (dLi q (dLo q s.2.1.length s) (dLo q s.2.1.length s).2.1.length).1.2.1 q, (dLi q (dLo q s.2.1.length s) (dLo q s.2.1.length s).2.1.length).1.2)
def dRall (s : DS) : Nat → DS
  | 0 => s
  | q + 1 => dRun q (dRall s q)
def dP1 (t : TT) (pr : List Nat) (nl : Nat) : TT := if t 60 0 = -1 then dGall t pr nl pr.length else dInT t pr nl
def dPend (s : DS) : DS := ((if s.2.1.length = 0 then tu (tu (dCw s.1 s.2.1 s.2.1.length) 23 0 (dCw s.1 s.2.1 s.2.1.length 23 0 + 1)) 60 0 (-1) else tu (dCw s.1 s.2.1 s.2.1.length) 23 0 (dCw s.1 s.2.1 s.2.1.length 23 0 + 1)), s.2)
def dTick (nl : Nat) (s : DS) : DS := dPend (dRall (dP1 s.1 s.2.1 nl, s.2) nl)
def dTicks (nl : Nat) (s : DS) : Nat → DS
  | 0 => s
  | n + 1 => dTick nl (dTicks nl s n)
def dSeS (k : Nat) (s : DS) : DS :=
  if s.1 13 (pg s.2.1 k) = 119 then (if s.1 8 (pg s.2.1 k) = 0 then (dFin (tu (tu s.1 9 (pg s.2.1 k) 0) 10 (pg s.2.1 k) (-1)) s.2.2 (pg s.2.1 k) 0, s.2.1.eraseIdx k, s.2.2 + 1)
    else (tu (tu s.1 9 (pg s.2.1 k) 0) 10 (pg s.2.1 k) (-1), s.2)) else (tu s.1 9 (pg s.2.1 k) 0, s.2)
def dSe : Nat → DS → DS
  | 0, s => s
  | k + 1, s => dSe k (dSeS k s)
/-! how many entries may come -/
def dPh (f : Nat → Int32) : List Nat → Nat
  | [] => 0
  | r :: pr => (if f r = 119 then 2 else 1) + dPh f pr
theorem dPh_le {f h : Nat → Int32} (H : ∀ r, h r = 119 → f r = 119) : ∀ pr, dPh h pr ≤ dPh f pr
  | [] => Nat.le_refl _
  | r :: pr => by
    have h1 := dPh_le H pr
    unfold dPh
    by_cases c : h r = 119
    · rw [if_pos c, if_pos (H r c)]; omega
    · rw [if_neg c]; split <;> omega
theorem dPh_er {f : Nat → Int32} : ∀ (pr : List Nat) (i : Nat), i < pr.length → dPh f (pr.eraseIdx i) + (if f (pg pr i) = 119 then 2 else 1) = dPh f pr
  | [], i, h => absurd h (by simp)
  | r :: pr, 0, h => by
    rw [show pg (r :: pr) 0 = r from rfl]
    show dPh f pr + _ = _ + dPh f pr
    omega
  | r :: pr, i + 1, h => by
    have h1 := dPh_er (f := f) pr i (by simpa using h)
    rw [show pg (r :: pr) (i + 1) = pg pr i from rfl]
    show (if f r = 119 then 2 else 1) + dPh f (pr.eraseIdx i) + _ = _ + dPh f pr
    omega
theorem dPh_mem {f h : Nat → Int32} (H : ∀ r, h r = 119 → f r = 119) {r : Nat} (hr : f r = 119) (hr2 : ¬ h r = 119) : ∀ pr, r ∈ pr → dPh h pr + 1 ≤ dPh f pr
  | [], hm => absurd hm (by simp)
  | x :: pr, hm => by
    have h1 := dPh_le H pr
    by_cases c : x = r
    · subst c
      unfold dPh
      rw [if_pos hr, if_neg hr2]; omega
    · have h2 := dPh_mem H hr hr2 pr ((List.mem_cons.mp hm).resolve_left (fun z => c z.symm))
      unfold dPh
      by_cases c2 : h x = 119
      · rw [if_pos c2, if_pos (H x c2)]; omega
      · rw [if_neg c2]; split <;> omega
theorem dPh_up : ∀ (f : Nat → Int32) (pr : List Nat), dPh f pr ≤ 2 * pr.length
  | f, [] => Nat.le_refl _
  | f, r :: pr => by
    have h1 := dPh_up f pr
    unfold dPh
    rw [List.length_cons]
    split <;> omega
theorem tu13 {t : TT} {r j : Nat} {v : Int32} (hv : v ≠ 119) : tu t 13 r v 13 j = 119 → t 13 j = 119 := by
  intro h
  by_cases c : j = r
  · subst c; rw [tu_s] at h; exact absurd h hv
  · rw [tu_i c] at h; exact h
theorem dNote_k {t : TT} {ne r k : Nat} (h : k ≠ 50) (h1 : k ≠ 51) (h2 : k ≠ 52) : dNote t ne r k = t k := by
  unfold dNote; rw [tu_r h2, tu_r h1, tu_r h]
theorem dFin_13 {t : TT} {ne r : Nat} {f : Int32} : dFin t ne r f 13 = tu t 13 r 100 13 := by
  unfold dFin
  rw [dNote_k (by decide) (by decide) (by decide), tu_r (by decide), tu_r (by decide)]
theorem dAbo_13 {t : TT} {ne r : Nat} : dAbo t ne r 13 = tu t 13 r 97 13 := by
  unfold dAbo
  rw [dNote_k (by decide) (by decide) (by decide)]
/-- what a step keeps to: entries only come, and at the present's cost -/
def dOkS (s s2 : DS) : Prop := s.2.2 ≤ s2.2.2 ∧ s2.2.2 + dPh (s2.1 13) s2.2.1 ≤ s.2.2 + dPh (s.1 13) s.2.1 ∧ s2.2.1.length ≤ s.2.1.length
theorem dOkS.rf {s : DS} : dOkS s s := ⟨Nat.le_refl _, Nat.le_refl _, Nat.le_refl _⟩
theorem dOkS.tr {s s2 s3 : DS} (h : dOkS s s2) (h2 : dOkS s2 s3) : dOkS s s3 := ⟨Nat.le_trans h.1 h2.1, Nat.le_trans h2.2.1 h.2.1, Nat.le_trans h2.2.2 h.2.2⟩
theorem dOkS.t {s : DS} {t2 : TT} (h : t2 13 = s.1 13) : dOkS s (t2, s.2) := ⟨Nat.le_refl _, by show s.2.2 + dPh (t2 13) s.2.1 ≤ _; rw [h]; exact Nat.le_refl _, Nat.le_refl _⟩
theorem er_len {pr : List Nat} {k : Nat} (h : k < pr.length) : (pr.eraseIdx k).length = pr.length - 1 := List.length_eraseIdx_of_lt h
theorem dFin_ok {s : DS} {t : TT} {k : Nat} {f : Int32} (ht : t 13 = s.1 13) (hk : k < s.2.1.length) : dOkS s (dFin t s.2.2 (pg s.2.1 k) f, s.2.1.eraseIdx k, s.2.2 + 1) := by
  refine ⟨Nat.le_succ _, ?_, by show (s.2.1.eraseIdx k).length ≤ _; rw [er_len hk]; omega⟩
  show s.2.2 + 1 + dPh (dFin t s.2.2 (pg s.2.1 k) f 13) (s.2.1.eraseIdx k) ≤ _
  have h1 := dPh_er (f := s.1 13) s.2.1 k hk
  have h2 := dPh_le (f := s.1 13) (h := dFin t s.2.2 (pg s.2.1 k) f 13) (fun r h => by rw [dFin_13] at h; have := tu13 (by decide) h; rw [ht] at this; exact this) (s.2.1.eraseIdx k)
  split at h1 <;> omega
theorem dLoS_ok {q k : Nat} {s : DS} (hk : k < s.2.1.length) : dOkS s (dLoS q k s) := by
  unfold dLoS
  repeat' split
  · exact dFin_ok rfl hk
  · exact dOkS.t (by rw [tu_r (by decide), tu_r (by decide)])
  · exact dOkS.rf
  · exact dOkS.rf
theorem dLoS_len {q k : Nat} {s : DS} (hk : k < s.2.1.length) : k ≤ (dLoS q k s).2.1.length := by
  unfold dLoS
  repeat' split
  · show k ≤ (s.2.1.eraseIdx k).length; rw [er_len hk]; omega
  · exact Nat.le_of_lt hk
  · exact Nat.le_of_lt hk
  · exact Nat.le_of_lt hk
theorem dLo_ok {q : Nat} : ∀ (k : Nat) (s : DS), k ≤ s.2.1.length → dOkS s (dLo q k s)
  | 0, s, _ => dOkS.rf
  | k + 1, s, h => (dLoS_ok h).tr (dLo_ok k _ (dLoS_len h))
theorem dLiS_ok {q r : Nat} {s : DS} {a : Int32} (hr : r ∈ s.2.1) : dOkS s (dLiS q r s a).1 ∧ (dLiS q r s a).1.2.1 = s.2.1 := by
  unfold dLiS
  by_cases c1 : s.1 13 r = 119 ∧ s.1 10 r = nI q
  · by_cases c2 : s.1 8 r = s.1 18 q
    · by_cases c3 : dRoom s.1 s.2.1 q
      · simp only [if_pos c1, if_pos c2, if_pos c3]
        refine ⟨⟨Nat.le_succ _, ?_, Nat.le_refl _⟩, trivial⟩
        show s.2.2 + 1 + dPh (dAbo s.1 s.2.2 r 13) s.2.1 ≤ _
        have := dPh_mem (f := s.1 13) (h := dAbo s.1 s.2.2 r 13) (fun r h => by rw [dAbo_13] at h; exact tu13 (by decide) h) c1.1 (by rw [dAbo_13, tu_s]; decide) s.2.1 hr
        omega
      · simp only [if_pos c1, if_pos c2, if_neg c3]; exact ⟨dOkS.rf, trivial⟩
    · simp only [if_pos c1, if_neg c2]; exact ⟨dOkS.rf, trivial⟩
  · simp only [if_neg c1]; exact ⟨dOkS.rf, trivial⟩
theorem pg_mem {pr : List Nat} {i : Nat} (h : i < pr.length) : pg pr i ∈ pr := by
  rw [pg_of (List.getElem?_eq_getElem h)]; exact List.getElem_mem h
theorem dLi_ok {q : Nat} {s : DS} : ∀ (i : Nat), i ≤ s.2.1.length → dOkS s (dLi q s i).1 ∧ (dLi q s i).1.2.1 = s.2.1
  | 0, _ => ⟨dOkS.rf, rfl⟩
  | i + 1, h => by
    obtain ⟨h1, h2⟩ := dLi_ok (q := q) (s := s) i (by omega)
    obtain ⟨h3, h4⟩ := dLiS_ok (q := q) (r := pg s.2.1 i) (s := (dLi q s i).1) (a := (dLi q s i).2) (by rw [h2]; exact pg_mem h)
    exact ⟨h1.tr h3, h4.trans h2⟩
theorem dMove_13 {t : TT} {pr : List Nat} {q : Nat} : dMove t pr q 13 = t 13 := by
  unfold dMove
  repeat' split
  all_goals first | rfl | rw [tu_r (by decide)] | rw [tu_r (by decide), tu_r (by decide)]
theorem dRun_ok {q : Nat} {s : DS} : dOkS s (dRun q s) := by
  have h1 := dLo_ok (q := q) s.2.1.length s (Nat.le_refl _)
  have h2 := dLi_ok (q := q) (s := dLo q s.2.1.length s) (dLo q s.2.1.length s).2.1.length (Nat.le_refl _)
  unfold dRun
  split
  · exact dOkS.t (by unfold dClean; rw [tu_r (by decide), tu_r (by decide)])
  · split
    · exact (h1.tr h2.1).tr (dOkS.t (by rw [tu_r (by decide)]))
    · exact (h1.tr h2.1).tr (dOkS.t dMove_13)
theorem dRall_ok {s : DS} : ∀ n, dOkS s (dRall s n)
  | 0 => dOkS.rf
  | n + 1 => (dRall_ok n).tr dRun_ok
theorem dGive_k {t : TT} {pr : List Nat} {nl r k : Nat} (h : k ≠ 10) : dGive t pr nl r k = t k := tu_r h
theorem dGs_k {t : TT} {pr : List Nat} {nl r k : Nat} (h : k ≠ 10) : dGs pr nl t r k = t k := by
  unfold dGs
  repeat' split
  all_goals first | rfl | exact dGive_k h
theorem dGall_k {t : TT} {pr : List Nat} {nl k : Nat} (h : k ≠ 10) : ∀ n, dGall t pr nl n k = t k
  | 0 => rfl
  | n + 1 => (dGs_k h).trans (dGall_k h n)
theorem dLose_k {t : TT} {pr : List Nat} {q k : Nat} (h : k ≠ 10) : ∀ n, (dLose t pr q n).1 k = t k
  | 0 => rfl
  | n + 1 => by
    show (dLs q _ _ _).1 k = _
    unfold dLs
    split
    · exact (tu_r h).trans (dLose_k h n)
    · exact dLose_k h n
theorem dLall_k {t : TT} {pr : List Nat} {k : Nat} (h : k ≠ 10) : ∀ n, dLall t pr n k = t k
  | 0 => rfl
  | n + 1 => (dLose_k h _).trans (dLall_k h n)
theorem dTall_k {t : TT} {pr : List Nat} {nl k : Nat} {f : Int32} (h : k ≠ 10) : ∀ n, dTall t pr nl f n k = t k
  | 0 => rfl
  | n + 1 => by
    show dTs pr nl f _ _ k = _
    unfold dTs
    repeat' split
    · exact (dGive_k h).trans (dTall_k h n)
    · exact dTall_k h n
    · exact dTall_k h n
theorem dP1_k {t : TT} {pr : List Nat} {nl k : Nat} (h : k ≠ 10) : dP1 t pr nl k = t k := by
  unfold dP1
  split
  · exact dGall_k h _
  · exact (dTall_k h _).trans (dLall_k h _)
theorem dCw_k {t : TT} {pr : List Nat} {k : Nat} (h : k ≠ 40) : ∀ n, dCw t pr n k = t k
  | 0 => rfl
  | n + 1 => by
    show dCs _ _ k = _
    unfold dCs
    split
    · exact (tu_r h).trans (dCw_k h n)
    · exact dCw_k h n
theorem dTick_ok {nl : Nat} {s : DS} : dOkS s (dTick nl s) := by
  have h1 : dOkS s (dP1 s.1 s.2.1 nl, s.2) := dOkS.t (dP1_k (by decide))
  refine (h1.tr (dRall_ok (s := (dP1 s.1 s.2.1 nl, s.2)) nl)).tr ?_
  show dOkS _ (dPend _)
  unfold dPend
  refine dOkS.t ?_
  split
  · rw [tu_r (by decide), tu_r (by decide), dCw_k (by decide)]
  · rw [tu_r (by decide), dCw_k (by decide)]
theorem dTicks_ok {nl : Nat} {s : DS} : ∀ n, dOkS s (dTicks nl s n)
  | 0 => dOkS.rf
  | n + 1 => (dTicks_ok n).tr dTick_ok
theorem dSeS_ok {k : Nat} {s : DS} (hk : k < s.2.1.length) : dOkS s (dSeS k s) := by
  unfold dSeS
  repeat' split
  · exact dFin_ok (by rw [tu_r (by decide), tu_r (by decide)]) hk
  · exact dOkS.t (by rw [tu_r (by decide), tu_r (by decide)])
  · exact dOkS.t (by rw [tu_r (by decide)])
theorem dSeS_len {k : Nat} {s : DS} (hk : k < s.2.1.length) : k ≤ (dSeS k s).2.1.length := by
  unfold dSeS
  repeat' split
  · show k ≤ (s.2.1.eraseIdx k).length; rw [er_len hk]; omega
  · exact Nat.le_of_lt hk
  · exact Nat.le_of_lt hk
theorem dSe_ok : ∀ (k : Nat) (s : DS), k ≤ s.2.1.length → dOkS s (dSe k s)
  | 0, s, _ => dOkS.rf
  | k + 1, s, h => (dSeS_ok h).tr (dSe_ok k _ (dSeS_len h))
/-! small things -/
theorem badge_iff {g : cG} {F : Nat → Prop} {A : Nat → Nat → Nat} {nb nl nr ne : Nat} {pr : List Nat} {t : TT} {H : Heap} (h : PD g F A nb nl nr ne pr t H) {r b : Nat} (hr : r < nr) (hb : b < nb) : some (A 4 (t 7 r).toNatClampNeg) = some (A 4 b) ↔ t 7 r = nI b := by
  have hl := h.di.1.1
  obtain ⟨b2, hb2, e⟩ := h.di.2.2.2.1 r hr
  rw [e, nI_clamp (by omega)]
  constructor
  · intro z
    rw [h.inj (k := 4) (by decide) (by decide) (by exact hb2) (by exact hb) (Option.some.inj z)]
  · intro z
    rw [(nI_eq (by omega) (by omega)).mp z]
theorem lref_n {A : Nat → Nat → Nat} {x : Int32} : lref A x = none ↔ x < 0 := by
  unfold lref
  split <;> simp [*]
theorem lref_m1 {A : Nat → Nat → Nat} : lref A (-1) = none := lref_n.mpr (by decide)
theorem lref_oI {A : Nat → Nat → Nat} {bo : Option Nat} (h : ∀ b, bo = some b → b < 100) : lref A (oI bo) = bo.map (A 5) := by
  cases bo with
  | none => exact lref_m1
  | some b =>
    have := h b rfl
    show lref A (nI b) = _
    rw [lref, if_neg (nI_pos (by omega)), nI_clamp (by omega)]
    rfl
theorem hs_10n {A : Nat → Nat → Nat} {t : TT} {i : Nat} : (dO A t 6 i).2.set 5 .null = (dO A (tu t 10 i (-1)) 6 i).2 := by
  have := hs_10 (A := A) (t := t) (i := i) (x := -1)
  rw [lref_m1] at this
  exact this
theorem hs_10o {A : Nat → Nat → Nat} {t : TT} {i : Nat} {bo : Option Nat} (h : ∀ b, bo = some b → b < 100) : (dO A t 6 i).2.set 5 (va_rf (bo.map (A 5))) = (dO A (tu t 10 i (oI bo)) 6 i).2 := by
  rw [← lref_oI h]; exact hs_10
section NL
variable {p : Program} {l : Launch} {e : Env} {R : Room} {s : State} {m : MethodId} {args : Array Value} {below : List Frame} {meth : Method} {c : Code} {H : Heap} {locs : List Loc} {cells slots : Nat} {Q : State → Prop}
variable {cc : ByteArray} {pc : Nat} {ls : Array Slot} {rest : List Value} {A : Nat → Nat → Nat}
theorem lv_ifnullL (hexec : p.tables.exec = Jvm.exec) (hb : c.code = cc) {x : Int32} {off : Int} {tgt : Nat} (hdg : decode cc pc = .ok (.ifnull off, 3)) (ht : (pc : Int) + off = (tgt : Int))
    (kt : x < 0 → W p l e R s m args below meth c H locs cells slots Q (F0 m tgt ls rest)) (kf : ¬ x < 0 → W p l e R s m args below meth c H locs cells slots Q (F0 m (pc + 3) ls rest)) : W p l e R s m args below meth c H locs cells slots Q (F0 m pc ls (va_rf (lref A x) :: rest)) :=
  lv_ifnullR hexec hb hdg ht (fun z => kt (lref_n.mp z)) (fun y z => kf (fun w => by rw [lref_n.mpr w] at z; cases z))
theorem lv_ifnonnullL (hexec : p.tables.exec = Jvm.exec) (hb : c.code = cc) {x : Int32} {off : Int} {tgt : Nat} (hdg : decode cc pc = .ok (.ifnonnull off, 3)) (ht : (pc : Int) + off = (tgt : Int))
    (kt : ¬ x < 0 → W p l e R s m args below meth c H locs cells slots Q (F0 m tgt ls rest)) (kf : x < 0 → W p l e R s m args below meth c H locs cells slots Q (F0 m (pc + 3) ls rest)) : W p l e R s m args below meth c H locs cells slots Q (F0 m pc ls (va_rf (lref A x) :: rest)) :=
  lv_ifnonnullR hexec hb hdg ht (fun y z => kt (fun w => by rw [lref_n.mpr w] at z; cases z)) (fun z => kf (lref_n.mp z))
end NL
end
section
theorem lt10_bet {f : Int32} (h : ¬ f ≤ 0) (h2 : f < 10) : bet f 1 9 := by
  have a : ¬ f.toInt ≤ (0 : Int32).toInt := fun z => h (Int32.le_iff_toInt_le.mpr z)
  have b := Int32.lt_iff_toInt_lt.mp h2
  have e0 : (0 : Int32).toInt = 0 := rfl
  have e1 : (10 : Int32).toInt = 10 := rfl
  have e2 : (1 : Int32).toInt = 1 := rfl
  have e3 : (9 : Int32).toInt = 9 := rfl
  exact ⟨Int32.le_iff_toInt_le.mpr (by omega), Int32.le_iff_toInt_le.mpr (by omega)⟩

set_option maxHeartbeats 4000000 in
set_option maxRecDepth 100000 in
theorem c_X4_time (l : Launch) (g : cG) (F : Nat → Prop) (A : Nat → Nat → Nat) (nb nl nr ne : Nat) (pr : List Nat) (t : TT)   : CT l yX4_time cX4_time 1 (some .int) 0 0 0 0 g F [.ref (A 0 0)] (PD g F A nb nl nr ne pr t) (fun v9 H9 => v9 = some (.int (t 23 0)) ∧ PD g F A nb nl nr ne pr t H9) := by
  refine CT.of (by decide) rfl ?_
  intro p e s m args below meth c E hr hk hnm hP ls hl
  have hS : va_S (nF F) s.heap s.heap [] := va_S.rf
  have hx := E.1
  have hb := E.2.1
  have hE_ml := E.2.2.1
  have hown := E.2.2.2.1
  have hts := E.2.2.2.2.1
  have hG := E.2.2.2.2.2
  have hd0 := hP.di.1
  have hl : lv_has ls 1 [(0, .ref (A 0 0))] := hl
  refine lv_aload_n hx hb dX4_time_0 rfl (lv_at hl 0 rfl) ?_
  refine dg E hP 8 fk_X4_38 dX4_time_1 (v := .int (t 23 0)) (kk := ?_)
  exact ct_iret E hr hk hS ⟨rfl, hP⟩ dX4_time_4

set_option maxHeartbeats 4000000 in
set_option maxRecDepth 100000 in
theorem c_X4_opened (l : Launch) (g : cG) (F : Nat → Prop) (A : Nat → Nat → Nat) (nb nl nr ne : Nat) (pr : List Nat) (t : TT)   : CT l yX4_opened cX4_opened 1 (some .int) 0 0 0 0 g F [.ref (A 0 0)] (PD g F A nb nl nr ne pr t) (fun v9 H9 => v9 = some (.int (t 24 0)) ∧ PD g F A nb nl nr ne pr t H9) := by
  refine CT.of (by decide) rfl ?_
  intro p e s m args below meth c E hr hk hnm hP ls hl
  have hS : va_S (nF F) s.heap s.heap [] := va_S.rf
  have hx := E.1
  have hb := E.2.1
  have hE_ml := E.2.2.1
  have hown := E.2.2.2.1
  have hts := E.2.2.2.2.1
  have hG := E.2.2.2.2.2
  have hd0 := hP.di.1
  have hl : lv_has ls 1 [(0, .ref (A 0 0))] := hl
  refine lv_aload_n hx hb dX4_opened_0 rfl (lv_at hl 0 rfl) ?_
  refine dg E hP 10 fk_X4_45 dX4_opened_1 (v := .int (t 24 0)) (kk := ?_)
  exact ct_iret E hr hk hS ⟨rfl, hP⟩ dX4_opened_4

set_option maxHeartbeats 4000000 in
set_option maxRecDepth 100000 in
theorem c_X4_refused (l : Launch) (g : cG) (F : Nat → Prop) (A : Nat → Nat → Nat) (nb nl nr ne : Nat) (pr : List Nat) (t : TT)   : CT l yX4_refused cX4_refused 1 (some .int) 0 0 0 0 g F [.ref (A 0 0)] (PD g F A nb nl nr ne pr t) (fun v9 H9 => v9 = some (.int (t 25 0)) ∧ PD g F A nb nl nr ne pr t H9) := by
  refine CT.of (by decide) rfl ?_
  intro p e s m args below meth c E hr hk hnm hP ls hl
  have hS : va_S (nF F) s.heap s.heap [] := va_S.rf
  have hx := E.1
  have hb := E.2.1
  have hE_ml := E.2.2.1
  have hown := E.2.2.2.1
  have hts := E.2.2.2.2.1
  have hG := E.2.2.2.2.2
  have hd0 := hP.di.1
  have hl : lv_has ls 1 [(0, .ref (A 0 0))] := hl
  refine lv_aload_n hx hb dX4_refused_0 rfl (lv_at hl 0 rfl) ?_
  refine dg E hP 11 fk_X4_48 dX4_refused_1 (v := .int (t 25 0)) (kk := ?_)
  exact ct_iret E hr hk hS ⟨rfl, hP⟩ dX4_refused_4

set_option maxHeartbeats 4000000 in
set_option maxRecDepth 100000 in
theorem c_X4_entries (l : Launch) (g : cG) (F : Nat → Prop) (A : Nat → Nat → Nat) (nb nl nr ne : Nat) (pr : List Nat) (t : TT)   : CT l yX4_entries cX4_entries 1 (some .int) 1 20 0 0 g F [.ref (A 0 0)] (PD g F A nb nl nr ne pr t) (fun v9 H9 => v9 = some (.int (nI ne)) ∧ PD g F A nb nl nr ne pr t H9) := by
  refine CT.of (by decide) rfl ?_
  intro p e s m args below meth c E hr hk hnm hP ls hl
  have hS : va_S (nF F) s.heap s.heap [] := va_S.rf
  have hx := E.1
  have hb := E.2.1
  have hE_ml := E.2.2.1
  have hown := E.2.2.2.1
  have hts := E.2.2.2.2.1
  have hG := E.2.2.2.2.2
  have hd0 := hP.di.1
  have hl : lv_has ls 1 [(0, .ref (A 0 0))] := hl
  refine lv_aload_n hx hb dX4_entries_0 rfl (lv_at hl 0 rfl) ?_
  refine dg E hP 7 fk_X4_35 dX4_entries_1 (v := .ref (A 2 4)) (kk := ?_)
  refine d_len E hS hP 4 ne hl ⟨rfl, rfl⟩ ⟨Nat.le_refl _, Nat.le_refl _⟩ dX4_entries_4 (kk := fun locs hS => ?_)
  exact ct_iret E hr hk hS ⟨rfl, hP⟩ dX4_entries_7

set_option maxHeartbeats 4000000 in
set_option maxRecDepth 100000 in
theorem c_X4_isAlarm (l : Launch) (g : cG) (F : Nat → Prop) (A : Nat → Nat → Nat) (nb nl nr ne : Nat) (pr : List Nat) (t : TT)   : CT l yX4_isAlarm cX4_isAlarm 1 (some .boolean) 0 0 0 0 g F [.ref (A 0 0)] (PD g F A nb nl nr ne pr t) (fun v9 H9 => v9 = some (.int (b2i (¬ t 60 0 = -1))) ∧ PD g F A nb nl nr ne pr t H9) := by
  refine CT.of (by decide) rfl ?_
  intro p e s m args below meth c E hr hk hnm hP ls hl
  have hS : va_S (nF F) s.heap s.heap [] := va_S.rf
  have hx := E.1
  have hb := E.2.1
  have hE_ml := E.2.2.1
  have hown := E.2.2.2.1
  have hts := E.2.2.2.2.1
  have hG := E.2.2.2.2.2
  have hd0 := hP.di.1
  have hl : lv_has ls 1 [(0, .ref (A 0 0))] := hl
  refine lv_aload_n hx hb dX4_isAlarm_0 rfl (lv_at hl 0 rfl) ?_
  refine dg E hP 9 fk_X4_42 dX4_isAlarm_1 (v := .int (t 60 0)) (kk := ?_)
  refine lv_iconst (v := (-1)) hx hb dX4_isAlarm_4 (by decide) ?_
  refine lv_icmp_eq (tgt := 12) hx hb dX4_isAlarm_5 (by decide) (fun c_1 => ?_) (fun c_1 => ?_)
  · refine lv_iconst (v := 0) hx hb dX4_isAlarm_12 (by decide) ?_
    have e1 : (b2i (¬ t 60 0 = -1)) = 0 := by simp only [b2i, eq_true c_1, if_true, if_false, reduceIte, true_and, and_true, false_and, and_false, true_or, or_true, false_or, or_false, not_true_eq_false, not_false_eq_true, decide_true, decide_false, Bool.true_and, Bool.and_true, Bool.false_and, Bool.and_false, Bool.not_true, Bool.not_false, Bool.or_false, Bool.false_or, Bool.or_true, Bool.true_or]
    exact ct_zret E hr (by decide) hk hS ⟨(by rw [e1]), hP⟩ dX4_isAlarm_13
  · refine lv_iconst (v := 1) hx hb dX4_isAlarm_8 (by decide) ?_
    refine lv_goto (tgt := 13) hx hb dX4_isAlarm_9 (by decide) ?_
    have e1 : (b2i (¬ t 60 0 = -1)) = 1 := by simp only [b2i, eq_false c_1, if_true, if_false, reduceIte, true_and, and_true, false_and, and_false, true_or, or_true, false_or, or_false, not_true_eq_false, not_false_eq_true, decide_true, decide_false, Bool.true_and, Bool.and_true, Bool.false_and, Bool.and_false, Bool.not_true, Bool.not_false, Bool.or_false, Bool.false_or, Bool.or_true, Bool.true_or]
    exact ct_zret E hr (by decide) hk hS ⟨(by rw [e1]), hP⟩ dX4_isAlarm_13

set_option maxHeartbeats 4000000 in
set_option maxRecDepth 100000 in
theorem c_X4_whyNot (l : Launch) (g : cG) (F : Nat → Prop) (A : Nat → Nat → Nat) (nb nl nr ne : Nat) (pr : List Nat) (t : TT) (b : Nat) (f : Int32) (hb9 : b < nb) : CT l yX4_whyNot cX4_whyNot 4 (some .char) 0 0 0 0 g F [.ref (A 0 0), .ref (A 4 b), .int f] (PD g F A nb nl nr ne pr t) (fun v9 H9 => v9 = some (.int (dWhy t b f)) ∧ PD g F A nb nl nr ne pr t H9) := by
  refine CT.of (by decide) rfl ?_
  intro p e s m args below meth c E hr hk hnm hP ls hl
  have hS : va_S (nF F) s.heap s.heap [] := va_S.rf
  have hx := E.1
  have hb := E.2.1
  have hE_ml := E.2.2.1
  have hown := E.2.2.2.1
  have hts := E.2.2.2.2.1
  have hG := E.2.2.2.2.2
  have hd0 := hP.di.1
  have hl : lv_has ls 4 [(0, .ref (A 0 0)), (1, .ref (A 4 b)), (2, .int f)] := hl
  refine lv_iload_n hx hb dX4_whyNot_0 rfl (lv_at hl 2 rfl) ?_
  refine lv_if_le (tgt := 10) hx hb dX4_whyNot_1 (by decide) (fun c_1 => ?_) (fun c_1 => ?_)
  · refine lv_bipush (v := 110) hx hb dX4_whyNot_10 (by decide) ?_
    have e1 : (dWhy t b f) = 110 := by simp only [dWhy, mTod, eq_true c_1, eq_false (Int32.not_lt.mpr c_1), if_true, if_false, reduceIte, true_and, and_true, false_and, and_false, true_or, or_true, false_or, or_false, not_true_eq_false, not_false_eq_true, decide_true, decide_false, Bool.true_and, Bool.and_true, Bool.false_and, Bool.and_false, Bool.not_true, Bool.not_false, Bool.or_false, Bool.false_or, Bool.or_true, Bool.true_or]
    exact ct_zret E hr (by decide) hk hS ⟨(by rw [e1]), hP⟩ dX4_whyNot_12
  · refine lv_iload_n hx hb dX4_whyNot_4 rfl (lv_at hl 2 rfl) ?_
    refine lv_bipush (v := 10) hx hb dX4_whyNot_5 (by decide) ?_
    refine lv_icmp_lt (tgt := 13) hx hb dX4_whyNot_7 (by decide) (fun c_2 => ?_) (fun c_2 => ?_)
    · obtain ⟨f9, rfl, hf9_lo, hf9_hi⟩ := bet_nI 1 9 1 9 (lt10_bet c_1 c_2) (by decide) (by decide)
      have f9_cl : (nI f9).toNatClampNeg = f9 := nI_clamp (by omega)
      refine lv_aload_n hx hb dX4_whyNot_13 rfl (lv_at hl 1 rfl) ?_
      refine dgn E hP 4 b hb9 kcX0 1 fn_X4_99 dX4_whyNot_14 (v := .int (t 5 b)) (kk := ?_)
      refine lv_if_eq (tgt := 23) hx hb dX4_whyNot_17 (by decide) (fun c_3 => ?_) (fun c_3 => ?_)
      · refine lv_aload_n hx hb dX4_whyNot_23 rfl (lv_at hl 0 rfl) ?_
        refine dg E hP 0 fk_X4_9 dX4_whyNot_24 (v := .ref (A 1 0)) (kk := ?_)
        refine lv_iload_n hx hb dX4_whyNot_27 rfl (lv_at hl 2 rfl) ?_
        refine dai E hP 0 f9 (v := t 1 f9) dX4_whyNot_28 rfl (show f9 < 10 by omega) rfl (kk := ?_)
        refine lv_iconst (v := (-1)) hx hb dX4_whyNot_29 (by decide) ?_
        refine lv_icmp_eq (tgt := 54) hx hb dX4_whyNot_30 (by decide) (fun c_4 => ?_) (fun c_4 => ?_)
        · refine lv_aload_n hx hb dX4_whyNot_54 rfl (lv_at hl 0 rfl) ?_
          refine dg E hP 8 fk_X4_38 dX4_whyNot_55 (v := .int (t 23 0)) (kk := ?_)
          refine lv_bipush (v := 100) hx hb dX4_whyNot_58 (by decide) ?_
          refine lv_irem hx hb dX4_whyNot_60 (by decide) ?_
          refine lv_istore_n (lv' := [(3, .int ((t 23 0) - (t 23 0) / 100 * 100)), (0, .ref (A 0 0)), (1, .ref (A 4 b)), (2, .int (nI f9))]) hx hb dX4_whyNot_61 rfl hl (by decide) rfl (fun ls hl => ?_)
          refine lv_aload_n hx hb dX4_whyNot_62 rfl (lv_at hl 1 rfl) ?_
          refine dg E hP 1 fk_X4_13 dX4_whyNot_63 (v := .ref (A 1 1)) (kk := ?_)
          refine lv_iload_n hx hb dX4_whyNot_66 rfl (lv_at hl 3 rfl) ?_
          refine dai E hP 1 f9 (v := t 2 f9) dX4_whyNot_67 rfl (show f9 < 10 by omega) rfl (kk := ?_)
          refine lv_iload_n hx hb dX4_whyNot_68 rfl (lv_at hl 0 rfl) ?_
          refine lv_icmp_gt (tgt := 87) hx hb dX4_whyNot_69 (by decide) (fun c_5 => ?_) (fun c_5 => ?_)
          · refine lv_bipush (v := 104) hx hb dX4_whyNot_87 (by decide) ?_
            have e1 : (dWhy t b (nI f9)) = 104 := by simp only [dWhy, mTod, eq_false c_1, eq_true (Int32.not_le.mp c_1), eq_true c_2, eq_false (Int32.not_le.mpr c_2), eq_true c_3, eq_true c_4, eq_true c_5, eq_false (Int32.not_le.mpr c_5), f9_cl, if_true, if_false, reduceIte, true_and, and_true, false_and, and_false, true_or, or_true, false_or, or_false, not_true_eq_false, not_false_eq_true, decide_true, decide_false, Bool.true_and, Bool.and_true, Bool.false_and, Bool.and_false, Bool.not_true, Bool.not_false, Bool.or_false, Bool.false_or, Bool.or_true, Bool.true_or]
            exact ct_zret E hr (by decide) hk hS ⟨(by rw [e1]), hP⟩ dX4_whyNot_89
          · refine lv_iload_n hx hb dX4_whyNot_72 rfl (lv_at hl 0 rfl) ?_
            refine lv_aload_n hx hb dX4_whyNot_73 rfl (lv_at hl 1 rfl) ?_
            refine dg E hP 2 fk_X4_16 dX4_whyNot_74 (v := .ref (A 1 2)) (kk := ?_)
            refine lv_iload_n hx hb dX4_whyNot_77 rfl (lv_at hl 3 rfl) ?_
            refine dai E hP 2 f9 (v := t 3 f9) dX4_whyNot_78 rfl (show f9 < 10 by omega) rfl (kk := ?_)
            refine lv_icmp_ge (tgt := 87) hx hb dX4_whyNot_79 (by decide) (fun c_6 => ?_) (fun c_6 => ?_)
            · refine lv_bipush (v := 104) hx hb dX4_whyNot_87 (by decide) ?_
              have e1 : (dWhy t b (nI f9)) = 104 := by simp only [dWhy, mTod, eq_false c_1, eq_true (Int32.not_le.mp c_1), eq_true c_2, eq_false (Int32.not_le.mpr c_2), eq_true c_3, eq_true c_4, eq_false c_5, eq_true (Int32.not_lt.mp c_5), eq_true c_6, eq_false (Int32.not_lt.mpr c_6), f9_cl, if_true, if_false, reduceIte, true_and, and_true, false_and, and_false, true_or, or_true, false_or, or_false, not_true_eq_false, not_false_eq_true, decide_true, decide_false, Bool.true_and, Bool.and_true, Bool.false_and, Bool.and_false, Bool.not_true, Bool.not_false, Bool.or_false, Bool.false_or, Bool.or_true, Bool.true_or]
              exact ct_zret E hr (by decide) hk hS ⟨(by rw [e1]), hP⟩ dX4_whyNot_89
            · refine lv_bipush (v := 110) hx hb dX4_whyNot_82 (by decide) ?_
              refine lv_goto (tgt := 89) hx hb dX4_whyNot_84 (by decide) ?_
              have e1 : (dWhy t b (nI f9)) = 110 := by simp only [dWhy, mTod, eq_false c_1, eq_true (Int32.not_le.mp c_1), eq_true c_2, eq_false (Int32.not_le.mpr c_2), eq_true c_3, eq_true c_4, eq_false c_5, eq_true (Int32.not_lt.mp c_5), eq_false c_6, eq_true (Int32.not_le.mp c_6), f9_cl, if_true, if_false, reduceIte, true_and, and_true, false_and, and_false, true_or, or_true, false_or, or_false, not_true_eq_false, not_false_eq_true, decide_true, decide_false, Bool.true_and, Bool.and_true, Bool.false_and, Bool.and_false, Bool.not_true, Bool.not_false, Bool.or_false, Bool.false_or, Bool.or_true, Bool.true_or]
              exact ct_zret E hr (by decide) hk hS ⟨(by rw [e1]), hP⟩ dX4_whyNot_89
        · refine lv_aload_n hx hb dX4_whyNot_33 rfl (lv_at hl 0 rfl) ?_
          refine dg E hP 0 fk_X4_9 dX4_whyNot_34 (v := .ref (A 1 0)) (kk := ?_)
          refine lv_iload_n hx hb dX4_whyNot_37 rfl (lv_at hl 2 rfl) ?_
          refine dai E hP 0 f9 (v := t 1 f9) dX4_whyNot_38 rfl (show f9 < 10 by omega) rfl (kk := ?_)
          refine lv_aload_n hx hb dX4_whyNot_39 rfl (lv_at hl 1 rfl) ?_
          refine dgn E hP 4 b hb9 kcX0 0 fn_X4_224 dX4_whyNot_40 (v := .int (t 4 b)) (kk := ?_)
          refine lv_icmp_ne (tgt := 51) hx hb dX4_whyNot_43 (by decide) (fun c_7 => ?_) (fun c_7 => ?_)
          · refine lv_bipush (v := 116) hx hb dX4_whyNot_51 (by decide) ?_
            have e1 : (dWhy t b (nI f9)) = 116 := by simp only [dWhy, mTod, eq_false c_1, eq_true (Int32.not_le.mp c_1), eq_true c_2, eq_false (Int32.not_le.mpr c_2), eq_true c_3, eq_false c_4, eq_false c_7, f9_cl, if_true, if_false, reduceIte, true_and, and_true, false_and, and_false, true_or, or_true, false_or, or_false, not_true_eq_false, not_false_eq_true, decide_true, decide_false, Bool.true_and, Bool.and_true, Bool.false_and, Bool.and_false, Bool.not_true, Bool.not_false, Bool.or_false, Bool.false_or, Bool.or_true, Bool.true_or]
            exact ct_zret E hr (by decide) hk hS ⟨(by rw [e1]), hP⟩ dX4_whyNot_53
          · refine lv_bipush (v := 110) hx hb dX4_whyNot_46 (by decide) ?_
            refine lv_goto (tgt := 53) hx hb dX4_whyNot_48 (by decide) ?_
            have e1 : (dWhy t b (nI f9)) = 110 := by simp only [dWhy, mTod, eq_false c_1, eq_true (Int32.not_le.mp c_1), eq_true c_2, eq_false (Int32.not_le.mpr c_2), eq_true c_3, eq_false c_4, eq_true c_7, f9_cl, if_true, if_false, reduceIte, true_and, and_true, false_and, and_false, true_or, or_true, false_or, or_false, not_true_eq_false, not_false_eq_true, decide_true, decide_false, Bool.true_and, Bool.and_true, Bool.false_and, Bool.and_false, Bool.not_true, Bool.not_false, Bool.or_false, Bool.false_or, Bool.or_true, Bool.true_or]
            exact ct_zret E hr (by decide) hk hS ⟨(by rw [e1]), hP⟩ dX4_whyNot_53
      · refine lv_bipush (v := 114) hx hb dX4_whyNot_20 (by decide) ?_
        have e1 : (dWhy t b (nI f9)) = 114 := by simp only [dWhy, mTod, eq_false c_1, eq_true (Int32.not_le.mp c_1), eq_true c_2, eq_false (Int32.not_le.mpr c_2), eq_false c_3, f9_cl, if_true, if_false, reduceIte, true_and, and_true, false_and, and_false, true_or, or_true, false_or, or_false, not_true_eq_false, not_false_eq_true, decide_true, decide_false, Bool.true_and, Bool.and_true, Bool.false_and, Bool.and_false, Bool.not_true, Bool.not_false, Bool.or_false, Bool.false_or, Bool.or_true, Bool.true_or]
        exact ct_zret E hr (by decide) hk hS ⟨(by rw [e1]), hP⟩ dX4_whyNot_22
    · refine lv_bipush (v := 110) hx hb dX4_whyNot_10 (by decide) ?_
      have e1 : (dWhy t b f) = 110 := by simp only [dWhy, mTod, eq_false c_1, eq_true (Int32.not_le.mp c_1), eq_false c_2, eq_true (Int32.not_lt.mp c_2), if_true, if_false, reduceIte, true_and, and_true, false_and, and_false, true_or, or_true, false_or, or_false, not_true_eq_false, not_false_eq_true, decide_true, decide_false, Bool.true_and, Bool.and_true, Bool.false_and, Bool.and_false, Bool.not_true, Bool.not_false, Bool.or_false, Bool.false_or, Bool.or_true, Bool.true_or]
      exact ct_zret E hr (by decide) hk hS ⟨(by rw [e1]), hP⟩ dX4_whyNot_12

set_option maxHeartbeats 4000000 in
set_option maxRecDepth 100000 in
theorem c_X4_hasRider (l : Launch) (g : cG) (F : Nat → Prop) (A : Nat → Nat → Nat) (nb nl nr ne : Nat) (pr : List Nat) (t : TT) (b : Nat) (hb9 : b < nb) : CT l yX4_hasRider cX4_hasRider 3 (some .boolean) 3 64 0 0 g F [.ref (A 0 0), .ref (A 4 b)] (PD g F A nb nl nr ne pr t) (fun v9 H9 => v9 = some (.int (b2i (dHas t pr b pr.length = true))) ∧ PD g F A nb nl nr ne pr t H9) := by
  refine CT.of (by decide) rfl ?_
  intro p e s m args below meth c E hr hk hnm hP ls hl
  have hS : va_S (nF F) s.heap s.heap [] := va_S.rf
  have hx := E.1
  have hb := E.2.1
  have hE_ml := E.2.2.1
  have hown := E.2.2.2.1
  have hts := E.2.2.2.2.1
  have hG := E.2.2.2.2.2
  have hd0 := hP.di.1
  have hl : lv_has ls 3 [(0, .ref (A 0 0)), (1, .ref (A 4 b))] := hl
  refine lv_iconst (v := 0) hx hb dX4_hasRider_0 (by decide) ?_
  refine lv_istore_n (lv' := [(2, .int 0), (0, .ref (A 0 0)), (1, .ref (A 4 b))]) hx hb dX4_hasRider_1 rfl hl (by decide) rfl (fun ls hl => ?_)
  have LP : ∀ (n9 i : Nat) , i ≤ pr.length → pr.length < i + n9 → (exB (fun i => decide (t 7 (pg pr i) = nI b)) i = false) → ∀ (H : Heap) (locs : List Loc), va_S (nF F) s.heap H locs → PD g F A nb nl nr ne pr t H → ∀ (ls : Array Slot), lv_has ls 3 [(0, .ref (A 0 0)), (1, .ref (A 4 b)), (2, .int (nI i))] → W p l e { frames := 3, cells := 0, slots := 0, locals := 64 } s m args below meth c H locs 0 0 (MQ below (Qg F (fun v9 H9 => v9 = some (.int (b2i (dHas t pr b pr.length = true))) ∧ PD g F A nb nl nr ne pr t H9)) args s 0 0 (nF F)) (F0 m 2 ls []) := by
    intro n9
    induction n9 with
    | zero => intro i  hi9 hn9; exact absurd hn9 (by omega)
    | succ n9 ihLP =>
      intro i  hi_LP hn_LP hno H locs hS hP ls hl
      have hd1 := hP.di.1
      refine lv_iload_n hx hb dX4_hasRider_2 rfl (lv_at hl 2 rfl) ?_
      refine lv_aload_n hx hb dX4_hasRider_3 rfl (lv_at hl 0 rfl) ?_
      refine dg E hP 6 fk_X4_32 dX4_hasRider_4 (v := .ref (A 2 3)) (kk := ?_)
      refine d_len E hS hP 3 pr.length hl ⟨rfl, rfl⟩ ⟨Nat.le_refl _, Nat.le_refl _⟩ dX4_hasRider_7 (kk := fun locs hS => ?_)
      refine lv_icmp_ge (tgt := 39) hx hb dX4_hasRider_10 (by decide) (fun c_1 => ?_) (fun c_1 => ?_)
      · have n_c_1 : pr.length ≤ i := (nI_leI (by omega) (by omega)).mp c_1
        refine lv_iconst (v := 0) hx hb dX4_hasRider_39 (by decide) ?_
        have e1 : (b2i (dHas t pr b pr.length = true)) = 0 := by exact b2i_f (by rw [dHas, show pr.length = i by omega, hno]; decide)
        exact ct_zret E hr (by decide) hk hS ⟨(by rw [e1]), hP⟩ dX4_hasRider_40
      · have n_c_1 : i < pr.length := Nat.lt_of_not_le (fun h9 => c_1 (nI_le h9 (by omega)))
        refine lv_aload_n hx hb dX4_hasRider_13 rfl (lv_at hl 0 rfl) ?_
        refine dg E hP 6 fk_X4_32 dX4_hasRider_14 (v := .ref (A 2 3)) (kk := ?_)
        refine lv_iload_n hx hb dX4_hasRider_17 rfl (lv_at hl 2 rfl) ?_
        refine d_getP E hS hP i rfl (by omega) hl ⟨rfl, rfl⟩ ⟨Nat.le_refl _, Nat.le_refl _⟩ dX4_hasRider_18 dX4_hasRider_21 (kk := fun r_2 hr_2 ir_2 pr_2 locs hS => ?_)
        obtain ⟨b_3, hb_3, eb_3⟩ := hP.di.2.2.2.1 r_2 hr_2
        have lb_3 := hP.di.1.1
        refine dgn E hP 6 r_2 hr_2 kcX3 1 fn_X4_227 dX4_hasRider_24 (v := .ref (A 4 b_3)) (hv := by show some (Value.ref (A 4 (t 7 r_2).toNatClampNeg)) = _; rw [eb_3, nI_clamp (by omega)]) (kk := ?_)
        refine lv_aload_n hx hb dX4_hasRider_27 rfl (lv_at hl 1 rfl) ?_
        refine lv_acmp_ne (tgt := 33) (rx := (some (A 4 b_3))) (ry := (some (A 4 b))) hx hb dX4_hasRider_28 (by decide) (fun c_4 => ?_) (fun c_4 => ?_)
        · rw [← nI_clamp (show b_3 < 2 ^ 31 by omega), ← eb_3, badge_iff hP hr_2 hb9] at c_4
          refine lv_iinc (v := (nI (i + 1))) (lv' := [(2, .int (nI (i + 1))), (0, .ref (A 0 0)), (1, .ref (A 4 b))]) hx hb dX4_hasRider_33 hl (k := 2) rfl (by rw [nI_succ]; rfl) (by decide) rfl (fun ls hl => ?_)
          refine lv_goto (tgt := 2) hx hb dX4_hasRider_36 (by decide) ?_
          exact ihLP (i + 1) (by omega) (by omega) (by simp only [exB, hno, pr_2, eq_false c_1, eq_false c_4, if_true, if_false, reduceIte, true_and, and_true, false_and, and_false, true_or, or_true, false_or, or_false, not_true_eq_false, not_false_eq_true, decide_true, decide_false, Bool.true_and, Bool.and_true, Bool.false_and, Bool.and_false, Bool.not_true, Bool.not_false, Bool.or_false, Bool.false_or, Bool.or_true, Bool.true_or]) H locs hS hP ls (lv_sub hl [1, 2, 0] rfl)
        · rw [← nI_clamp (show b_3 < 2 ^ 31 by omega), ← eb_3, badge_iff hP hr_2 hb9] at c_4
          refine lv_iconst (v := 1) hx hb dX4_hasRider_31 (by decide) ?_
          have e1 : (b2i (dHas t pr b pr.length = true)) = 1 := by exact b2i_t (exB_of (i := i) (by omega) (by simp only [pr_2, eq_false c_1, eq_true c_4, if_true, if_false, reduceIte, true_and, and_true, false_and, and_false, true_or, or_true, false_or, or_false, not_true_eq_false, not_false_eq_true, decide_true, decide_false, Bool.true_and, Bool.and_true, Bool.false_and, Bool.and_false, Bool.not_true, Bool.not_false, Bool.or_false, Bool.false_or, Bool.or_true, Bool.true_or]))
          exact ct_zret E hr (by decide) hk hS ⟨(by rw [e1]), hP⟩ dX4_hasRider_32
  exact LP (pr.length + 1) 0 (Nat.zero_le _) (by omega) rfl _ _ hS hP ls (lv_sub hl [1, 2, 0] rfl)

set_option maxHeartbeats 4000000 in
set_option maxRecDepth 100000 in
theorem c_X4_countAboard (l : Launch) (g : cG) (F : Nat → Prop) (A : Nat → Nat → Nat) (nb nl nr ne : Nat) (pr : List Nat) (t : TT) (q : Nat) (hq : q < nl) : CT l yX4_countAboard cX4_countAboard 4 (some .int) 3 64 0 0 g F [.ref (A 0 0), .ref (A 5 q)] (PD g F A nb nl nr ne pr t) (fun v9 H9 => v9 = some (.int (dAb t pr q pr.length)) ∧ PD g F A nb nl nr ne pr t H9) := by
  refine CT.of (by decide) rfl ?_
  intro p e s m args below meth c E hr hk hnm hP ls hl
  have hS : va_S (nF F) s.heap s.heap [] := va_S.rf
  have hx := E.1
  have hb := E.2.1
  have hE_ml := E.2.2.1
  have hown := E.2.2.2.1
  have hts := E.2.2.2.2.1
  have hG := E.2.2.2.2.2
  have hd0 := hP.di.1
  have hl : lv_has ls 4 [(0, .ref (A 0 0)), (1, .ref (A 5 q))] := hl
  refine lv_iconst (v := 0) hx hb dX4_countAboard_0 (by decide) ?_
  refine lv_istore_n (lv' := [(2, .int 0), (0, .ref (A 0 0)), (1, .ref (A 5 q))]) hx hb dX4_countAboard_1 rfl hl (by decide) rfl (fun ls hl => ?_)
  refine lv_iconst (v := 0) hx hb dX4_countAboard_2 (by decide) ?_
  refine lv_istore_n (lv' := [(3, .int 0), (2, .int 0), (0, .ref (A 0 0)), (1, .ref (A 5 q))]) hx hb dX4_countAboard_3 rfl hl (by decide) rfl (fun ls hl => ?_)
  have LP : ∀ (n9 i : Nat) (a9 : Int32), i ≤ pr.length → pr.length < i + n9 → (a9 = dAb t pr q i) → ∀ (H : Heap) (locs : List Loc), va_S (nF F) s.heap H locs → PD g F A nb nl nr ne pr t H → ∀ (ls : Array Slot), lv_has ls 4 [(0, .ref (A 0 0)), (1, .ref (A 5 q)), (2, .int a9), (3, .int (nI i))] → W p l e { frames := 3, cells := 0, slots := 0, locals := 64 } s m args below meth c H locs 0 0 (MQ below (Qg F (fun v9 H9 => v9 = some (.int (dAb t pr q pr.length)) ∧ PD g F A nb nl nr ne pr t H9)) args s 0 0 (nF F)) (F0 m 4 ls []) := by
    intro n9
    induction n9 with
    | zero => intro i a9 hi9 hn9; exact absurd hn9 (by omega)
    | succ n9 ihLP =>
      intro i a9 hi_LP hn_LP ha H locs hS hP ls hl
      have hd1 := hP.di.1
      refine lv_iload_n hx hb dX4_countAboard_4 rfl (lv_at hl 3 rfl) ?_
      refine lv_aload_n hx hb dX4_countAboard_5 rfl (lv_at hl 0 rfl) ?_
      refine dg E hP 6 fk_X4_32 dX4_countAboard_6 (v := .ref (A 2 3)) (kk := ?_)
      refine d_len E hS hP 3 pr.length hl ⟨rfl, rfl⟩ ⟨Nat.le_refl _, Nat.le_refl _⟩ dX4_countAboard_9 (kk := fun locs hS => ?_)
      refine lv_icmp_ge (tgt := 42) hx hb dX4_countAboard_12 (by decide) (fun c_1 => ?_) (fun c_1 => ?_)
      · have n_c_1 : pr.length ≤ i := (nI_leI (by omega) (by omega)).mp c_1
        refine lv_iload_n hx hb dX4_countAboard_42 rfl (lv_at hl 2 rfl) ?_
        have e1 : (dAb t pr q pr.length) = a9 := by rw [ha, show i = pr.length by omega]
        exact ct_iret E hr hk hS ⟨(by rw [e1]), hP⟩ dX4_countAboard_43
      · have n_c_1 : i < pr.length := Nat.lt_of_not_le (fun h9 => c_1 (nI_le h9 (by omega)))
        refine lv_aload_n hx hb dX4_countAboard_15 rfl (lv_at hl 0 rfl) ?_
        refine dg E hP 6 fk_X4_32 dX4_countAboard_16 (v := .ref (A 2 3)) (kk := ?_)
        refine lv_iload_n hx hb dX4_countAboard_19 rfl (lv_at hl 3 rfl) ?_
        refine d_getP E hS hP i rfl (by omega) hl ⟨rfl, rfl⟩ ⟨Nat.le_refl _, Nat.le_refl _⟩ dX4_countAboard_20 dX4_countAboard_23 (kk := fun r_2 hr_2 ir_2 pr_2 locs hS => ?_)
        refine lv_aload_n hx hb dX4_countAboard_26 rfl (lv_at hl 1 rfl) ?_
        refine d_isIn E hS hP hr_2 hq hl ⟨rfl, rfl⟩ ⟨Nat.le_refl _, Nat.le_refl _⟩ dX4_countAboard_27 (kk := fun locs hS => ?_)
        refine bz_eq (tgt := 36) hx hb dX4_countAboard_30 (by decide) (fun c_3 => ?_) (fun c_3 => ?_)
        · refine lv_iinc (v := (nI (i + 1))) (lv' := [(3, .int (nI (i + 1))), (0, .ref (A 0 0)), (1, .ref (A 5 q)), (2, .int a9)]) hx hb dX4_countAboard_36 hl (k := 3) rfl (by rw [nI_succ]; rfl) (by decide) rfl (fun ls hl => ?_)
          refine lv_goto (tgt := 4) hx hb dX4_countAboard_39 (by decide) ?_
          exact ihLP (i + 1) _ (by omega) (by omega) (by rw [show dAb t pr q (i + 1) = dAb t pr q i + _ from rfl, ← ha]; simp only [pr_2, eq_false c_1, eq_false c_3, if_true, if_false, reduceIte, true_and, and_true, false_and, and_false, true_or, or_true, false_or, or_false, not_true_eq_false, not_false_eq_true, decide_true, decide_false, Bool.true_and, Bool.and_true, Bool.false_and, Bool.and_false, Bool.not_true, Bool.not_false, Bool.or_false, Bool.false_or, Bool.or_true, Bool.true_or, Int32.add_zero]) H locs hS hP ls (lv_sub hl [1, 2, 3, 0] rfl)
        · refine lv_iinc (v := a9 + 1) (lv' := [(2, .int (a9 + 1)), (0, .ref (A 0 0)), (1, .ref (A 5 q)), (3, .int (nI i))]) hx hb dX4_countAboard_33 hl (k := 2) rfl (by rfl) (by decide) rfl (fun ls hl => ?_)
          refine lv_iinc (v := (nI (i + 1))) (lv' := [(3, .int (nI (i + 1))), (2, .int (a9 + 1)), (0, .ref (A 0 0)), (1, .ref (A 5 q))]) hx hb dX4_countAboard_36 hl (k := 3) rfl (by rw [nI_succ]; rfl) (by decide) rfl (fun ls hl => ?_)
          refine lv_goto (tgt := 4) hx hb dX4_countAboard_39 (by decide) ?_
          exact ihLP (i + 1) _ (by omega) (by omega) (by rw [show dAb t pr q (i + 1) = dAb t pr q i + _ from rfl, ← ha]; simp only [pr_2, eq_false c_1, eq_true c_3, if_true, if_false, reduceIte, true_and, and_true, false_and, and_false, true_or, or_true, false_or, or_false, not_true_eq_false, not_false_eq_true, decide_true, decide_false, Bool.true_and, Bool.and_true, Bool.false_and, Bool.and_false, Bool.not_true, Bool.not_false, Bool.or_false, Bool.false_or, Bool.or_true, Bool.true_or, Int32.add_zero]) H locs hS hP ls (lv_sub hl [2, 3, 1, 0] rfl)
  exact LP (pr.length + 1) 0 0 (Nat.zero_le _) (by omega) rfl _ _ hS hP ls (lv_sub hl [2, 3, 1, 0] rfl)

set_option maxHeartbeats 4000000 in
set_option maxRecDepth 100000 in
theorem c_X4_hasRoom (l : Launch) (g : cG) (F : Nat → Prop) (A : Nat → Nat → Nat) (nb nl nr ne : Nat) (pr : List Nat) (t : TT) (q : Nat) (hq : q < nl) : CT l yX4_hasRoom cX4_hasRoom 2 (some .boolean) 4 87 0 0 g F [.ref (A 0 0), .ref (A 5 q)] (PD g F A nb nl nr ne pr t) (fun v9 H9 => v9 = some (.int (b2i (dRoom t pr q))) ∧ PD g F A nb nl nr ne pr t H9) := by
  refine CT.of (by decide) rfl ?_
  intro p e s m args below meth c E hr hk hnm hP ls hl
  have hS : va_S (nF F) s.heap s.heap [] := va_S.rf
  have hx := E.1
  have hb := E.2.1
  have hE_ml := E.2.2.1
  have hown := E.2.2.2.1
  have hts := E.2.2.2.2.1
  have hG := E.2.2.2.2.2
  have hd0 := hP.di.1
  have hl : lv_has ls 2 [(0, .ref (A 0 0)), (1, .ref (A 5 q))] := hl
  refine lv_aload_n hx hb dX4_hasRoom_0 rfl (lv_at hl 1 rfl) ?_
  refine dgn E hP 5 q hq kcX2 4 fn_X4_171 dX4_hasRoom_1 (v := .int (t 20 q)) (kk := ?_)
  refine lv_bipush (v := 115) hx hb dX4_hasRoom_4 (by decide) ?_
  refine lv_icmp_ne (tgt := 25) hx hb dX4_hasRoom_6 (by decide) (fun c_1 => ?_) (fun c_1 => ?_)
  · refine lv_iconst (v := 0) hx hb dX4_hasRoom_25 (by decide) ?_
    have e1 : (b2i (dRoom t pr q)) = 0 := by simp only [dRoom, b2i, eq_false c_1, if_true, if_false, reduceIte, true_and, and_true, false_and, and_false, true_or, or_true, false_or, or_false, not_true_eq_false, not_false_eq_true, decide_true, decide_false, Bool.true_and, Bool.and_true, Bool.false_and, Bool.and_false, Bool.not_true, Bool.not_false, Bool.or_false, Bool.false_or, Bool.or_true, Bool.true_or]
    exact ct_zret E hr (by decide) hk hS ⟨(by rw [e1]), hP⟩ dX4_hasRoom_26
  · refine lv_aload_n hx hb dX4_hasRoom_9 rfl (lv_at hl 0 rfl) ?_
    refine lv_aload_n hx hb dX4_hasRoom_10 rfl (lv_at hl 1 rfl) ?_
    refine ct_V E hS (c_X4_countAboard l g F A nb nl nr ne pr t q hq) ok_X4_countAboard lk_X4_183 hP (hP.recv hG) rfl hl ⟨rfl, rfl⟩ rfl ⟨Nat.le_refl _, Nat.le_refl _⟩ dX4_hasRoom_11 rfl (fun v9 H locs hv9 hS hz9 => ?_)
    obtain ⟨rfl, hP⟩ := hv9
    refine lv_aload_n hx hb dX4_hasRoom_14 rfl (lv_at hl 1 rfl) ?_
    refine dgn E hP 5 q hq kcX2 1 fn_X4_235 dX4_hasRoom_15 (v := .int (t 17 q)) (kk := ?_)
    refine lv_icmp_ge (tgt := 25) hx hb dX4_hasRoom_18 (by decide) (fun c_2 => ?_) (fun c_2 => ?_)
    · refine lv_iconst (v := 0) hx hb dX4_hasRoom_25 (by decide) ?_
      have e1 : (b2i (dRoom t pr q)) = 0 := by simp only [dRoom, b2i, eq_true c_1, eq_true c_2, eq_false (Int32.not_lt.mpr c_2), if_true, if_false, reduceIte, true_and, and_true, false_and, and_false, true_or, or_true, false_or, or_false, not_true_eq_false, not_false_eq_true, decide_true, decide_false, Bool.true_and, Bool.and_true, Bool.false_and, Bool.and_false, Bool.not_true, Bool.not_false, Bool.or_false, Bool.false_or, Bool.or_true, Bool.true_or]
      exact ct_zret E hr (by decide) hk hS ⟨(by rw [e1]), hP⟩ dX4_hasRoom_26
    · refine lv_iconst (v := 1) hx hb dX4_hasRoom_21 (by decide) ?_
      refine lv_goto (tgt := 26) hx hb dX4_hasRoom_22 (by decide) ?_
      have e1 : (b2i (dRoom t pr q)) = 1 := by simp only [dRoom, b2i, eq_true c_1, eq_false c_2, eq_true (Int32.not_le.mp c_2), if_true, if_false, reduceIte, true_and, and_true, false_and, and_false, true_or, or_true, false_or, or_false, not_true_eq_false, not_false_eq_true, decide_true, decide_false, Bool.true_and, Bool.and_true, Bool.false_and, Bool.and_false, Bool.not_true, Bool.not_false, Bool.or_false, Bool.false_or, Bool.or_true, Bool.true_or]
      exact ct_zret E hr (by decide) hk hS ⟨(by rw [e1]), hP⟩ dX4_hasRoom_26

set_option maxHeartbeats 4000000 in
set_option maxRecDepth 100000 in
theorem c_X4_isWaitedOn (l : Launch) (g : cG) (F : Nat → Prop) (A : Nat → Nat → Nat) (nb nl nr ne : Nat) (pr : List Nat) (t : TT) (f : Int32)  : CT l yX4_isWaitedOn cX4_isWaitedOn 4 (some .boolean) 3 64 0 0 g F [.ref (A 0 0), .int f] (PD g F A nb nl nr ne pr t) (fun v9 H9 => v9 = some (.int (b2i (dWt t pr f = true))) ∧ PD g F A nb nl nr ne pr t H9) := by
  refine CT.of (by decide) rfl ?_
  intro p e s m args below meth c E hr hk hnm hP ls hl
  have hS : va_S (nF F) s.heap s.heap [] := va_S.rf
  have hx := E.1
  have hb := E.2.1
  have hE_ml := E.2.2.1
  have hown := E.2.2.2.1
  have hts := E.2.2.2.2.1
  have hG := E.2.2.2.2.2
  have hd0 := hP.di.1
  have hl : lv_has ls 4 [(0, .ref (A 0 0)), (1, .int f)] := hl
  refine lv_iconst (v := 0) hx hb dX4_isWaitedOn_0 (by decide) ?_
  refine lv_istore_n (lv' := [(2, .int 0), (0, .ref (A 0 0)), (1, .int f)]) hx hb dX4_isWaitedOn_1 rfl hl (by decide) rfl (fun ls hl => ?_)
  have LP : ∀ (n9 i : Nat) , i ≤ pr.length → pr.length < i + n9 → (exB (fun i => decide (t 13 (pg pr i) = 119) && decide (t 8 (pg pr i) = f)) i = false) → ∀ (H : Heap) (locs : List Loc), va_S (nF F) s.heap H locs → PD g F A nb nl nr ne pr t H → ∀ (ls : Array Slot), lv_has ls 4 [(0, .ref (A 0 0)), (1, .int f), (2, .int (nI i))] → W p l e { frames := 3, cells := 0, slots := 0, locals := 64 } s m args below meth c H locs 0 0 (MQ below (Qg F (fun v9 H9 => v9 = some (.int (b2i (dWt t pr f = true))) ∧ PD g F A nb nl nr ne pr t H9)) args s 0 0 (nF F)) (F0 m 2 ls []) := by
    intro n9
    induction n9 with
    | zero => intro i  hi9 hn9; exact absurd hn9 (by omega)
    | succ n9 ihLP =>
      intro i  hi_LP hn_LP hno H locs hS hP ls hl
      have hd1 := hP.di.1
      refine lv_iload_n hx hb dX4_isWaitedOn_2 rfl (lv_at hl 2 rfl) ?_
      refine lv_aload_n hx hb dX4_isWaitedOn_3 rfl (lv_at hl 0 rfl) ?_
      refine dg E hP 6 fk_X4_32 dX4_isWaitedOn_4 (v := .ref (A 2 3)) (kk := ?_)
      refine d_len E hS hP 3 pr.length hl ⟨rfl, rfl⟩ ⟨Nat.le_refl _, Nat.le_refl _⟩ dX4_isWaitedOn_7 (kk := fun locs hS => ?_)
      refine lv_icmp_ge (tgt := 50) hx hb dX4_isWaitedOn_10 (by decide) (fun c_1 => ?_) (fun c_1 => ?_)
      · have n_c_1 : pr.length ≤ i := (nI_leI (by omega) (by omega)).mp c_1
        refine lv_iconst (v := 0) hx hb dX4_isWaitedOn_50 (by decide) ?_
        have e1 : (b2i (dWt t pr f = true)) = 0 := by exact b2i_f (by rw [dWt, show pr.length = i by omega, hno]; decide)
        exact ct_zret E hr (by decide) hk hS ⟨(by rw [e1]), hP⟩ dX4_isWaitedOn_51
      · have n_c_1 : i < pr.length := Nat.lt_of_not_le (fun h9 => c_1 (nI_le h9 (by omega)))
        refine lv_aload_n hx hb dX4_isWaitedOn_13 rfl (lv_at hl 0 rfl) ?_
        refine dg E hP 6 fk_X4_32 dX4_isWaitedOn_14 (v := .ref (A 2 3)) (kk := ?_)
        refine lv_iload_n hx hb dX4_isWaitedOn_17 rfl (lv_at hl 2 rfl) ?_
        refine d_getP E hS hP i rfl (by omega) hl ⟨rfl, rfl⟩ ⟨Nat.le_refl _, Nat.le_refl _⟩ dX4_isWaitedOn_18 dX4_isWaitedOn_21 (kk := fun r_2 hr_2 ir_2 pr_2 locs hS => ?_)
        refine lv_astore_n (lv' := [(3, .ref (A 6 r_2)), (0, .ref (A 0 0)), (1, .int f), (2, .int (nI i))]) hx hb dX4_isWaitedOn_24 rfl hl (by decide) rfl (fun ls hl => ?_)
        refine lv_aload_n hx hb dX4_isWaitedOn_25 rfl (lv_at hl 0 rfl) ?_
        refine dgn E hP 6 r_2 hr_2 kcX3 4 fn_X4_140 dX4_isWaitedOn_26 (v := .int (t 13 r_2)) (kk := ?_)
        refine lv_bipush (v := 119) hx hb dX4_isWaitedOn_29 (by decide) ?_
        refine lv_icmp_ne (tgt := 44) hx hb dX4_isWaitedOn_31 (by decide) (fun c_3 => ?_) (fun c_3 => ?_)
        · refine lv_iinc (v := (nI (i + 1))) (lv' := [(2, .int (nI (i + 1))), (3, .ref (A 6 r_2)), (0, .ref (A 0 0)), (1, .int f)]) hx hb dX4_isWaitedOn_44 hl (k := 3) rfl (by rw [nI_succ]; rfl) (by decide) rfl (fun ls hl => ?_)
          refine lv_goto (tgt := 2) hx hb dX4_isWaitedOn_47 (by decide) ?_
          exact ihLP (i + 1) (by omega) (by omega) (by simp only [exB, hno, pr_2, eq_false c_1, eq_false c_3, if_true, if_false, reduceIte, true_and, and_true, false_and, and_false, true_or, or_true, false_or, or_false, not_true_eq_false, not_false_eq_true, decide_true, decide_false, Bool.true_and, Bool.and_true, Bool.false_and, Bool.and_false, Bool.not_true, Bool.not_false, Bool.or_false, Bool.false_or, Bool.or_true, Bool.true_or]) H locs hS hP ls (lv_sub hl [2, 3, 0] rfl)
        · refine lv_aload_n hx hb dX4_isWaitedOn_34 rfl (lv_at hl 0 rfl) ?_
          refine dgn E hP 6 r_2 hr_2 kcX3 2 fn_X4_151 dX4_isWaitedOn_35 (v := .int (t 8 r_2)) (kk := ?_)
          refine lv_iload_n hx hb dX4_isWaitedOn_38 rfl (lv_at hl 2 rfl) ?_
          refine lv_icmp_ne (tgt := 44) hx hb dX4_isWaitedOn_39 (by decide) (fun c_4 => ?_) (fun c_4 => ?_)
          · refine lv_iinc (v := (nI (i + 1))) (lv' := [(2, .int (nI (i + 1))), (3, .ref (A 6 r_2)), (0, .ref (A 0 0)), (1, .int f)]) hx hb dX4_isWaitedOn_44 hl (k := 3) rfl (by rw [nI_succ]; rfl) (by decide) rfl (fun ls hl => ?_)
            refine lv_goto (tgt := 2) hx hb dX4_isWaitedOn_47 (by decide) ?_
            exact ihLP (i + 1) (by omega) (by omega) (by simp only [exB, hno, pr_2, eq_false c_1, eq_true c_3, eq_false c_4, if_true, if_false, reduceIte, true_and, and_true, false_and, and_false, true_or, or_true, false_or, or_false, not_true_eq_false, not_false_eq_true, decide_true, decide_false, Bool.true_and, Bool.and_true, Bool.false_and, Bool.and_false, Bool.not_true, Bool.not_false, Bool.or_false, Bool.false_or, Bool.or_true, Bool.true_or]) H locs hS hP ls (lv_sub hl [2, 3, 0] rfl)
          · refine lv_iconst (v := 1) hx hb dX4_isWaitedOn_42 (by decide) ?_
            have e1 : (b2i (dWt t pr f = true)) = 1 := by exact b2i_t (exB_of (i := i) (by omega) (by simp only [pr_2, eq_false c_1, eq_true c_3, eq_true c_4, if_true, if_false, reduceIte, true_and, and_true, false_and, and_false, true_or, or_true, false_or, or_false, not_true_eq_false, not_false_eq_true, decide_true, decide_false, Bool.true_and, Bool.and_true, Bool.false_and, Bool.and_false, Bool.not_true, Bool.not_false, Bool.or_false, Bool.false_or, Bool.or_true, Bool.true_or]))
            exact ct_zret E hr (by decide) hk hS ⟨(by rw [e1]), hP⟩ dX4_isWaitedOn_43
  exact LP (pr.length + 1) 0 (Nat.zero_le _) (by omega) rfl _ _ hS hP ls (lv_sub hl [1, 2, 0] rfl)

set_option maxHeartbeats 4000000 in
set_option maxRecDepth 100000 in
theorem c_X4_floorInTurn (l : Launch) (g : cG) (F : Nat → Prop) (A : Nat → Nat → Nat) (nb nl nr ne : Nat) (pr : List Nat) (t : TT)   : CT l yX4_floorInTurn cX4_floorInTurn 2 (some .int) 4 87 0 0 g F [.ref (A 0 0)] (PD g F A nb nl nr ne pr t) (fun v9 H9 => v9 = some (.int (dTurn t pr)) ∧ PD g F A nb nl nr ne pr t H9) := by
  refine CT.of (by decide) rfl ?_
  intro p e s m args below meth c E hr hk hnm hP ls hl
  have hS : va_S (nF F) s.heap s.heap [] := va_S.rf
  have hx := E.1
  have hb := E.2.1
  have hE_ml := E.2.2.1
  have hown := E.2.2.2.1
  have hts := E.2.2.2.2.1
  have hG := E.2.2.2.2.2
  have hd0 := hP.di.1
  have hl : lv_has ls 2 [(0, .ref (A 0 0))] := hl
  refine lv_aload_n hx hb dX4_floorInTurn_0 rfl (lv_at hl 0 rfl) ?_
  refine dg E hP 9 fk_X4_42 dX4_floorInTurn_1 (v := .int (t 60 0)) (kk := ?_)
  refine lv_iconst (v := (-1)) hx hb dX4_floorInTurn_4 (by decide) ?_
  refine lv_icmp_ne (tgt := 10) hx hb dX4_floorInTurn_5 (by decide) (fun c_1 => ?_) (fun c_1 => ?_)
  · refine lv_iconst (v := 0) hx hb dX4_floorInTurn_10 (by decide) ?_
    refine lv_istore_n (lv' := [(1, .int 0), (0, .ref (A 0 0))]) hx hb dX4_floorInTurn_11 rfl hl (by decide) rfl (fun ls hl => ?_)
    have LP : ∀ (n9 i : Nat) , i ≤ 10 → 10 < i + n9 → (dTn t pr 10 0 = dTn t pr (10 - i) i) → ∀ (H : Heap) (locs : List Loc), va_S (nF F) s.heap H locs → PD g F A nb nl nr ne pr t H → ∀ (ls : Array Slot), lv_has ls 2 [(0, .ref (A 0 0)), (1, .int (nI i))] → W p l e { frames := 4, cells := 0, slots := 0, locals := 87 } s m args below meth c H locs 0 0 (MQ below (Qg F (fun v9 H9 => v9 = some (.int (dTurn t pr)) ∧ PD g F A nb nl nr ne pr t H9)) args s 0 0 (nF F)) (F0 m 12 ls []) := by
      intro n9
      induction n9 with
      | zero => intro i  hi9 hn9; exact absurd hn9 (by omega)
      | succ n9 ihLP =>
        intro i  hi_LP hn_LP hres H locs hS hP ls hl
        have hd1 := hP.di.1
        refine lv_iload_n hx hb dX4_floorInTurn_12 rfl (lv_at hl 1 rfl) ?_
        refine lv_bipush (v := 10) hx hb dX4_floorInTurn_13 (by decide) ?_
        refine lv_icmp_ge (tgt := 64) hx hb dX4_floorInTurn_15 (by decide) (fun c_2 => ?_) (fun c_2 => ?_)
        · have n_c_2 : 10 ≤ i := (nI_leI (by omega) (by omega)).mp (show nI 10 ≤ nI i from c_2)
          refine lv_iconst (v := (-1)) hx hb dX4_floorInTurn_64 (by decide) ?_
          have e1 : (dTurn t pr) = (-1) := by rw [dTurn, if_neg c_1, hres]; rw [show 10 - i = 0 by omega]; rfl
          exact ct_iret E hr hk hS ⟨(by rw [e1]), hP⟩ dX4_floorInTurn_65
        · have n_c_2 : i < 10 := Nat.lt_of_not_le (fun h9 => c_2 (show nI 10 ≤ nI i from nI_le h9 (by omega)))
          have e_k : 10 - i = (9 - i) + 1 := by omega
          rw [e_k] at hres
          refine lv_aload_n hx hb dX4_floorInTurn_18 rfl (lv_at hl 0 rfl) ?_
          refine lv_aload_n hx hb dX4_floorInTurn_19 rfl (lv_at hl 0 rfl) ?_
          refine dg E hP 9 fk_X4_42 dX4_floorInTurn_20 (v := .int (t 60 0)) (kk := ?_)
          refine lv_iload_n hx hb dX4_floorInTurn_23 rfl (lv_at hl 1 rfl) ?_
          refine lv_iadd hx hb dX4_floorInTurn_24 ?_
          refine ct_V E hS (c_X4_isWaitedOn l g F A nb nl nr ne pr t ((t 60 0) + (nI i))) ok_X4_isWaitedOn lk_X4_304 hP (hP.recv hG) rfl hl ⟨rfl, rfl⟩ rfl ⟨Nat.le_refl _, Nat.le_refl _⟩ dX4_floorInTurn_25 rfl (fun v9 H locs hv9 hS hz9 => ?_)
          obtain ⟨rfl, hP⟩ := hv9
          refine bz_eq (tgt := 38) hx hb dX4_floorInTurn_28 (by decide) (fun c_3 => ?_) (fun c_3 => ?_)
          · refine lv_aload_n hx hb dX4_floorInTurn_38 rfl (lv_at hl 0 rfl) ?_
            refine lv_aload_n hx hb dX4_floorInTurn_39 rfl (lv_at hl 0 rfl) ?_
            refine dg E hP 9 fk_X4_42 dX4_floorInTurn_40 (v := .int (t 60 0)) (kk := ?_)
            refine lv_iload_n hx hb dX4_floorInTurn_43 rfl (lv_at hl 1 rfl) ?_
            refine lv_isub hx hb dX4_floorInTurn_44 ?_
            refine ct_V E hS (c_X4_isWaitedOn l g F A nb nl nr ne pr t ((t 60 0) - (nI i))) ok_X4_isWaitedOn lk_X4_304 hP (hP.recv hG) rfl hl ⟨rfl, rfl⟩ rfl ⟨Nat.le_refl _, Nat.le_refl _⟩ dX4_floorInTurn_45 rfl (fun v9 H locs hv9 hS hz9 => ?_)
            obtain ⟨rfl, hP⟩ := hv9
            refine bz_eq (tgt := 58) hx hb dX4_floorInTurn_48 (by decide) (fun c_4 => ?_) (fun c_4 => ?_)
            · refine lv_iinc (v := (nI (i + 1))) (lv' := [(1, .int (nI (i + 1))), (0, .ref (A 0 0))]) hx hb dX4_floorInTurn_58 hl (k := 1) rfl (by rw [nI_succ]; rfl) (by decide) rfl (fun ls hl => ?_)
              refine lv_goto (tgt := 12) hx hb dX4_floorInTurn_61 (by decide) ?_
              exact ihLP (i + 1) (by omega) (by omega) (by rw [hres]; simp only [dTn, eq_false c_3, eq_false c_4, Bool.false_eq_true, if_true, if_false, reduceIte, true_and, and_true, false_and, and_false, true_or, or_true, false_or, or_false, not_true_eq_false, not_false_eq_true, decide_true, decide_false, Bool.true_and, Bool.and_true, Bool.false_and, Bool.and_false, Bool.not_true, Bool.not_false, Bool.or_false, Bool.false_or, Bool.or_true, Bool.true_or]; rw [show 10 - (i + 1) = 9 - i by omega]) H locs hS hP ls (lv_sub hl [1, 0] rfl)
            · refine lv_aload_n hx hb dX4_floorInTurn_51 rfl (lv_at hl 0 rfl) ?_
              refine dg E hP 9 fk_X4_42 dX4_floorInTurn_52 (v := .int (t 60 0)) (kk := ?_)
              refine lv_iload_n hx hb dX4_floorInTurn_55 rfl (lv_at hl 1 rfl) ?_
              refine lv_isub hx hb dX4_floorInTurn_56 ?_
              have e1 : (dTurn t pr) = (t 60 0) - (nI i) := by rw [dTurn, if_neg c_1, hres]; simp only [dTn, eq_false c_3, eq_true c_4, Bool.false_eq_true, if_true, if_false, reduceIte, true_and, and_true, false_and, and_false, true_or, or_true, false_or, or_false, not_true_eq_false, not_false_eq_true, decide_true, decide_false, Bool.true_and, Bool.and_true, Bool.false_and, Bool.and_false, Bool.not_true, Bool.not_false, Bool.or_false, Bool.false_or, Bool.or_true, Bool.true_or]
              exact ct_iret E hr hk hS ⟨(by rw [e1]), hP⟩ dX4_floorInTurn_57
          · refine lv_aload_n hx hb dX4_floorInTurn_31 rfl (lv_at hl 0 rfl) ?_
            refine dg E hP 9 fk_X4_42 dX4_floorInTurn_32 (v := .int (t 60 0)) (kk := ?_)
            refine lv_iload_n hx hb dX4_floorInTurn_35 rfl (lv_at hl 1 rfl) ?_
            refine lv_iadd hx hb dX4_floorInTurn_36 ?_
            have e1 : (dTurn t pr) = (t 60 0) + (nI i) := by rw [dTurn, if_neg c_1, hres]; simp only [dTn, eq_true c_3, Bool.false_eq_true, if_true, if_false, reduceIte, true_and, and_true, false_and, and_false, true_or, or_true, false_or, or_false, not_true_eq_false, not_false_eq_true, decide_true, decide_false, Bool.true_and, Bool.and_true, Bool.false_and, Bool.and_false, Bool.not_true, Bool.not_false, Bool.or_false, Bool.false_or, Bool.or_true, Bool.true_or]
            exact ct_iret E hr hk hS ⟨(by rw [e1]), hP⟩ dX4_floorInTurn_37
    exact LP (10 + 1) 0 (Nat.zero_le _) (by omega) rfl _ _ hS hP ls (lv_sub hl [1, 0] rfl)
  · refine lv_iconst (v := (-1)) hx hb dX4_floorInTurn_8 (by decide) ?_
    have e1 : (dTurn t pr) = (-1) := by rw [dTurn, if_pos c_1]
    exact ct_iret E hr hk hS ⟨(by rw [e1]), hP⟩ dX4_floorInTurn_9

set_option maxHeartbeats 4000000 in
set_option maxRecDepth 100000 in
theorem c_X4_scoreOf (l : Launch) (g : cG) (F : Nat → Prop) (A : Nat → Nat → Nat) (nb nl nr ne : Nat) (pr : List Nat) (t : TT) (q : Nat) (f : Int32) (hq : q < nl) : CT l yX4_scoreOf cX4_scoreOf 5 (some .int) 3 64 0 0 g F [.ref (A 0 0), .ref (A 5 q), .int f] (PD g F A nb nl nr ne pr t) (fun v9 H9 => v9 = some (.int (dScore t pr q f)) ∧ PD g F A nb nl nr ne pr t H9) := by
  refine CT.of (by decide) rfl ?_
  intro p e s m args below meth c E hr hk hnm hP ls hl
  have hS : va_S (nF F) s.heap s.heap [] := va_S.rf
  have hx := E.1
  have hb := E.2.1
  have hE_ml := E.2.2.1
  have hown := E.2.2.2.1
  have hts := E.2.2.2.2.1
  have hG := E.2.2.2.2.2
  have hd0 := hP.di.1
  have hl : lv_has ls 5 [(0, .ref (A 0 0)), (1, .ref (A 5 q)), (2, .int f)] := hl
  refine lv_aload_n hx hb dX4_scoreOf_0 rfl (lv_at hl 1 rfl) ?_
  refine dgn E hP 5 q hq kcX2 2 fn_X4_148 dX4_scoreOf_1 (v := .int (t 18 q)) (kk := ?_)
  refine lv_iload_n hx hb dX4_scoreOf_4 rfl (lv_at hl 2 rfl) ?_
  refine lv_isub hx hb dX4_scoreOf_5 ?_
  refine va_mabs hx hb (hE_ml.trans hl.1.symm) hown (hts _ lk_X4_250) (hts _ st_abs) (hts _ in_J9) (hts _ cd_abs) (by decide) (by decide) (by decide) (by decide) dX4_scoreOf_6 ?_
  refine lv_istore_n (lv' := [(3, .int (if 0 ≤ ((t 18 q) - f) then ((t 18 q) - f) else 0 - ((t 18 q) - f))), (0, .ref (A 0 0)), (1, .ref (A 5 q)), (2, .int f)]) hx hb dX4_scoreOf_9 rfl hl (by decide) rfl (fun ls hl => ?_)
  refine lv_iconst (v := 0) hx hb dX4_scoreOf_10 (by decide) ?_
  refine lv_istore (lv' := [(4, .int 0), (3, .int (if 0 ≤ ((t 18 q) - f) then ((t 18 q) - f) else 0 - ((t 18 q) - f))), (0, .ref (A 0 0)), (1, .ref (A 5 q)), (2, .int f)]) hx hb dX4_scoreOf_11 hl (by decide) rfl (fun ls hl => ?_)
  have LP : ∀ (n9 i : Nat) (a9 : Int32), i ≤ pr.length → pr.length < i + n9 → (a9 = dSc t pr q f i) → ∀ (H : Heap) (locs : List Loc), va_S (nF F) s.heap H locs → PD g F A nb nl nr ne pr t H → ∀ (ls : Array Slot), lv_has ls 5 [(0, .ref (A 0 0)), (1, .ref (A 5 q)), (2, .int f), (3, .int a9), (4, .int (nI i))] → W p l e { frames := 3, cells := 0, slots := 0, locals := 64 } s m args below meth c H locs 0 0 (MQ below (Qg F (fun v9 H9 => v9 = some (.int (dScore t pr q f)) ∧ PD g F A nb nl nr ne pr t H9)) args s 0 0 (nF F)) (F0 m 13 ls []) := by
    intro n9
    induction n9 with
    | zero => intro i a9 hi9 hn9; exact absurd hn9 (by omega)
    | succ n9 ihLP =>
      intro i a9 hi_LP hn_LP ha H locs hS hP ls hl
      have hd1 := hP.di.1
      refine lv_iload hx hb dX4_scoreOf_13 (lv_at hl 4 rfl) ?_
      refine lv_aload_n hx hb dX4_scoreOf_15 rfl (lv_at hl 0 rfl) ?_
      refine dg E hP 6 fk_X4_32 dX4_scoreOf_16 (v := .ref (A 2 3)) (kk := ?_)
      refine d_len E hS hP 3 pr.length hl ⟨rfl, rfl⟩ ⟨Nat.le_refl _, Nat.le_refl _⟩ dX4_scoreOf_19 (kk := fun locs hS => ?_)
      refine lv_icmp_ge (tgt := 53) hx hb dX4_scoreOf_22 (by decide) (fun c_1 => ?_) (fun c_1 => ?_)
      · have n_c_1 : pr.length ≤ i := (nI_leI (by omega) (by omega)).mp c_1
        refine lv_iload_n hx hb dX4_scoreOf_53 rfl (lv_at hl 3 rfl) ?_
        have e1 : (dScore t pr q f) = a9 := by rw [ha, dScore, show i = pr.length by omega]
        exact ct_iret E hr hk hS ⟨(by rw [e1]), hP⟩ dX4_scoreOf_54
      · have n_c_1 : i < pr.length := Nat.lt_of_not_le (fun h9 => c_1 (nI_le h9 (by omega)))
        refine lv_aload_n hx hb dX4_scoreOf_25 rfl (lv_at hl 0 rfl) ?_
        refine dg E hP 6 fk_X4_32 dX4_scoreOf_26 (v := .ref (A 2 3)) (kk := ?_)
        refine lv_iload hx hb dX4_scoreOf_29 (lv_at hl 4 rfl) ?_
        refine d_getP E hS hP i rfl (by omega) hl ⟨rfl, rfl⟩ ⟨Nat.le_refl _, Nat.le_refl _⟩ dX4_scoreOf_31 dX4_scoreOf_34 (kk := fun r_2 hr_2 ir_2 pr_2 locs hS => ?_)
        refine dgn E hP 6 r_2 hr_2 kcX3 5 fn_X4_144 dX4_scoreOf_37 (v := va_rf (lref A (t 10 r_2))) (kk := ?_)
        refine lv_aload_n hx hb dX4_scoreOf_40 rfl (lv_at hl 1 rfl) ?_
        refine lv_acmp_ne (tgt := 47) (rx := (lref A (t 10 r_2))) (ry := (some (A 5 q))) hx hb dX4_scoreOf_41 (by decide) (fun c_3 => ?_) (fun c_3 => ?_)
        · rw [lref_iff hP hr_2 hq] at c_3
          refine lv_iinc (v := (nI (i + 1))) (lv' := [(4, .int (nI (i + 1))), (0, .ref (A 0 0)), (1, .ref (A 5 q)), (2, .int f), (3, .int a9)]) hx hb dX4_scoreOf_47 hl (k := 4) rfl (by rw [nI_succ]; rfl) (by decide) rfl (fun ls hl => ?_)
          refine lv_goto (tgt := 13) hx hb dX4_scoreOf_50 (by decide) ?_
          exact ihLP (i + 1) _ (by omega) (by omega) (by rw [show dSc t pr q f (i + 1) = dSc t pr q f i + _ from rfl, ← ha]; simp only [pr_2, eq_false c_1, eq_false c_3, if_true, if_false, reduceIte, true_and, and_true, false_and, and_false, true_or, or_true, false_or, or_false, not_true_eq_false, not_false_eq_true, decide_true, decide_false, Bool.true_and, Bool.and_true, Bool.false_and, Bool.and_false, Bool.not_true, Bool.not_false, Bool.or_false, Bool.false_or, Bool.or_true, Bool.true_or, Int32.add_zero]) H locs hS hP ls (lv_sub hl [1, 2, 3, 4, 0] rfl)
        · rw [lref_iff hP hr_2 hq] at c_3
          refine lv_iinc (v := a9 + 2) (lv' := [(3, .int (a9 + 2)), (0, .ref (A 0 0)), (1, .ref (A 5 q)), (2, .int f), (4, .int (nI i))]) hx hb dX4_scoreOf_44 hl (k := 3) rfl (by rfl) (by decide) rfl (fun ls hl => ?_)
          refine lv_iinc (v := (nI (i + 1))) (lv' := [(4, .int (nI (i + 1))), (3, .int (a9 + 2)), (0, .ref (A 0 0)), (1, .ref (A 5 q)), (2, .int f)]) hx hb dX4_scoreOf_47 hl (k := 4) rfl (by rw [nI_succ]; rfl) (by decide) rfl (fun ls hl => ?_)
          refine lv_goto (tgt := 13) hx hb dX4_scoreOf_50 (by decide) ?_
          exact ihLP (i + 1) _ (by omega) (by omega) (by rw [show dSc t pr q f (i + 1) = dSc t pr q f i + _ from rfl, ← ha]; simp only [pr_2, eq_false c_1, eq_true c_3, if_true, if_false, reduceIte, true_and, and_true, false_and, and_false, true_or, or_true, false_or, or_false, not_true_eq_false, not_false_eq_true, decide_true, decide_false, Bool.true_and, Bool.and_true, Bool.false_and, Bool.and_false, Bool.not_true, Bool.not_false, Bool.or_false, Bool.false_or, Bool.or_true, Bool.true_or, Int32.add_zero]) H locs hS hP ls (lv_sub hl [2, 3, 4, 1, 0] rfl)
  exact LP (pr.length + 1) 0 (dSc t pr q f 0) (Nat.zero_le _) (by omega) rfl _ _ hS hP ls (lv_sub hl [2, 3, 4, 1, 0] rfl)
end
section
section AR
variable {p : Program} {l : Launch} {e : Env} {R : Room} {s : State} {m : MethodId} {args : Array Value} {below : List Frame} {meth : Method} {c : Code} {H : Heap} {locs : List Loc} {cells slots : Nat} {Q : State → Prop}
variable {cc : ByteArray} {pc : Nat} {ls : Array Slot} {rest : List Value}
theorem lv_aload_nR (hexec : p.tables.exec = Jvm.exec) (hb : c.code = cc) {k : Fin 4} {i : Nat} {o : Option Nat} (hdg : decode cc pc = .ok (.aload_n k, 1)) (hi : (k : Nat) = i) (hl : ls[i]? = some (.val (va_rf o)))
    (kk : W p l e R s m args below meth c H locs cells slots Q (F0 m (pc + 1) ls (va_rf o :: rest))) : W p l e R s m args below meth c H locs cells slots Q (F0 m pc ls rest) := by
  cases o with
  | none => exact lv_aload_nN hexec hb hdg hi hl kk
  | some x => exact lv_aload_n hexec hb hdg hi hl kk
end AR
theorem oI_di {bo : Option Nat} {nl : Nat} (h : ∀ b, bo = some b → b < nl) : oI bo = -1 ∨ ∃ q, q < nl ∧ oI bo = nI q := by
  cases bo with
  | none => exact Or.inl rfl
  | some b => exact Or.inr ⟨b, h b rfl, rfl⟩

set_option maxHeartbeats 4000000 in
set_option maxRecDepth 100000 in
theorem c_X4_giveLift (l : Launch) (g : cG) (F : Nat → Prop) (A : Nat → Nat → Nat) (nb nl nr ne : Nat) (pr : List Nat) (t : TT) (r : Nat) (hr9 : r < nr) : CT l yX4_giveLift cX4_giveLift 7 none 4 88 0 0 g F [.ref (A 0 0), .ref (A 6 r)] (PD g F A nb nl nr ne pr t) (fun v9 H9 => v9 = none ∧ PD g F A nb nl nr ne pr (dGive t pr nl r) H9) := by
  refine CT.of (by decide) rfl ?_
  intro p e s m args below meth c E hr hk hnm hP ls hl
  have hS : va_S (nF F) s.heap s.heap [] := va_S.rf
  have hx := E.1
  have hb := E.2.1
  have hE_ml := E.2.2.1
  have hown := E.2.2.2.1
  have hts := E.2.2.2.2.1
  have hG := E.2.2.2.2.2
  have hd0 := hP.di.1
  have hl : lv_has ls 7 [(0, .ref (A 0 0)), (1, .ref (A 6 r))] := hl
  refine lv_null hx hb dX4_giveLift_0 ?_
  refine lv_astore_nN (lv' := [(2, .null), (0, .ref (A 0 0)), (1, .ref (A 6 r))]) hx hb dX4_giveLift_1 rfl hl (by decide) rfl (fun ls hl => ?_)
  refine lv_iconst (v := 0) hx hb dX4_giveLift_2 (by decide) ?_
  refine lv_istore_n (lv' := [(3, .int 0), (2, .null), (0, .ref (A 0 0)), (1, .ref (A 6 r))]) hx hb dX4_giveLift_3 rfl hl (by decide) rfl (fun ls hl => ?_)
  refine lv_iconst (v := 0) hx hb dX4_giveLift_4 (by decide) ?_
  refine lv_istore (lv' := [(4, .int 0), (3, .int 0), (2, .null), (0, .ref (A 0 0)), (1, .ref (A 6 r))]) hx hb dX4_giveLift_5 hl (by decide) rfl (fun ls hl => ?_)
  have LP : ∀ (n9 i : Nat) (bo : Option Nat) (a9 : Int32), i ≤ nl → nl < i + n9 → (bo = dBst t pr (t 8 r) i) → (∀ b, bo = some b → b < i) → (∀ b, bo = some b → a9 = dScore t pr b (t 8 r)) → ∀ (H : Heap) (locs : List Loc), va_S (nF F) s.heap H locs → PD g F A nb nl nr ne pr t H → ∀ (ls : Array Slot), lv_has ls 7 [(0, .ref (A 0 0)), (1, .ref (A 6 r)), (2, va_rf (Option.map (A 5) bo)), (3, .int a9), (4, .int (nI i))] → W p l e { frames := 4, cells := 0, slots := 0, locals := 88 } s m args below meth c H locs 0 0 (MQ below (Qg F (fun v9 H9 => v9 = none ∧ PD g F A nb nl nr ne pr (dGive t pr nl r) H9)) args s 0 0 (nF F)) (F0 m 7 ls []) := by
    intro n9
    induction n9 with
    | zero => intro i bo a9 hi9 hn9; exact absurd hn9 (by omega)
    | succ n9 ihLP =>
      intro i bo a9 hi_LP hn_LP hbo hbl hle H locs hS hP ls hl
      have hd1 := hP.di.1
      refine lv_iload hx hb dX4_giveLift_7 (lv_at hl 4 rfl) ?_
      refine lv_aload_n hx hb dX4_giveLift_9 rfl (lv_at hl 0 rfl) ?_
      refine dg E hP 4 fk_X4_26 dX4_giveLift_10 (v := .ref (A 2 1)) (kk := ?_)
      refine d_len E hS hP 1 nl hl ⟨rfl, rfl⟩ ⟨Nat.le_refl _, Nat.le_refl _⟩ dX4_giveLift_13 (kk := fun locs hS => ?_)
      refine lv_icmp_ge (tgt := 77) hx hb dX4_giveLift_16 (by decide) (fun c_1 => ?_) (fun c_1 => ?_)
      · have n_c_1 : nl ≤ i := (nI_leI (by omega) (by omega)).mp c_1
        refine lv_aload_n hx hb dX4_giveLift_77 rfl (lv_at hl 1 rfl) ?_
        refine lv_aload_nR hx hb dX4_giveLift_78 rfl (lv_at hl 2 rfl) ?_
        refine dpn E hS hP 6 r hr9 kcX3 5 10 (x := (oI bo)) fn_X4_144 (hs_10o (fun b h9 => by have := hbl b h9; omega)) (hP.di.p10 (oI_di (fun b h9 => by have := hbl b h9; omega))) nar_rf fit_rf dX4_giveLift_79 (kk := fun H locs hS hP => ?_)
        have e2 : (dGive t pr nl r) = (tu t 10 r (oI bo)) := by rw [dGive, show nl = i by omega, ← hbo]
        exact ct_vret E hr hk hS ⟨rfl, (by rw [e2]; exact hP)⟩ dX4_giveLift_82
      · have n_c_1 : i < nl := Nat.lt_of_not_le (fun h9 => c_1 (nI_le h9 (by omega)))
        refine lv_aload_n hx hb dX4_giveLift_19 rfl (lv_at hl 0 rfl) ?_
        refine dg E hP 4 fk_X4_26 dX4_giveLift_20 (v := .ref (A 2 1)) (kk := ?_)
        refine lv_iload hx hb dX4_giveLift_23 (lv_at hl 4 rfl) ?_
        have h_2 : i < nl := by omega
        refine d_getL E hS hP i rfl h_2 hl ⟨rfl, rfl⟩ ⟨Nat.le_refl _, Nat.le_refl _⟩ dX4_giveLift_25 dX4_giveLift_28 (kk := fun locs hS => ?_)
        refine lv_astore (lv' := [(5, .ref (A 5 i)), (0, .ref (A 0 0)), (1, .ref (A 6 r)), (2, va_rf (Option.map (A 5) bo)), (3, .int a9), (4, .int (nI i))]) hx hb dX4_giveLift_31 hl (by decide) rfl (fun ls hl => ?_)
        refine lv_aload hx hb dX4_giveLift_33 (lv_at hl 0 rfl) ?_
        refine dgn E hP 5 i h_2 kcX2 4 fn_X4_171 dX4_giveLift_35 (v := .int (t 20 i)) (kk := ?_)
        refine lv_bipush (v := 115) hx hb dX4_giveLift_38 (by decide) ?_
        refine lv_icmp_ne (tgt := 71) hx hb dX4_giveLift_40 (by decide) (fun c_3 => ?_) (fun c_3 => ?_)
        · refine lv_iinc (v := (nI (i + 1))) (lv' := [(4, .int (nI (i + 1))), (5, .ref (A 5 i)), (0, .ref (A 0 0)), (1, .ref (A 6 r)), (2, va_rf (Option.map (A 5) bo)), (3, .int a9)]) hx hb dX4_giveLift_71 hl (k := 5) rfl (by rw [nI_succ]; rfl) (by decide) rfl (fun ls hl => ?_)
          refine lv_goto (tgt := 7) hx hb dX4_giveLift_74 (by decide) ?_
          exact ihLP (i + 1) bo a9 (by omega) (by omega) (by simp only [dBst, ← hbo, eq_false c_1, eq_false c_3, if_true, if_false, reduceIte, true_and, and_true, false_and, and_false, true_or, or_true, false_or, or_false, not_true_eq_false, not_false_eq_true, decide_true, decide_false, Bool.true_and, Bool.and_true, Bool.false_and, Bool.and_false, Bool.not_true, Bool.not_false, Bool.or_false, Bool.false_or, Bool.or_true, Bool.true_or]) (fun b hb9 => Nat.lt_succ_of_lt (hbl b hb9)) hle H locs hS hP ls (lv_sub hl [2, 3, 4, 5, 0] rfl)
        · refine lv_aload_n hx hb dX4_giveLift_43 rfl (lv_at hl 1 rfl) ?_
          refine lv_aload hx hb dX4_giveLift_44 (lv_at hl 0 rfl) ?_
          refine lv_aload_n hx hb dX4_giveLift_46 rfl (lv_at hl 2 rfl) ?_
          refine dgn E hP 6 r hr9 kcX3 2 fn_X4_151 dX4_giveLift_47 (v := .int (t 8 r)) (kk := ?_)
          refine ct_V E hS (c_X4_scoreOf l g F A nb nl nr ne pr t i (t 8 r) h_2) ok_X4_scoreOf lk_X4_186 hP (hP.recv hG) rfl hl ⟨rfl, rfl⟩ rfl ⟨Nat.le_refl _, Nat.le_refl _⟩ dX4_giveLift_50 rfl (fun v9 H locs hv9 hS hz9 => ?_)
          obtain ⟨rfl, hP⟩ := hv9
          refine lv_istore (lv' := [(6, .int (dScore t pr i (t 8 r))), (5, .ref (A 5 i)), (0, .ref (A 0 0)), (1, .ref (A 6 r)), (2, va_rf (Option.map (A 5) bo)), (3, .int a9), (4, .int (nI i))]) hx hb dX4_giveLift_53 hl (by decide) rfl (fun ls hl => ?_)
          rcases bo with _ | b0
          · have hl : lv_has ls 7 [(6, .int (dScore t pr i (t 8 r))), (5, .ref (A 5 i)), (0, .ref (A 0 0)), (1, .ref (A 6 r)), (2, .null), (3, .int a9), (4, .int (nI i))] := hl
            refine lv_aload_nN hx hb dX4_giveLift_55 rfl (lv_at hl 4 rfl) ?_
            refine lv_ifnullN (tgt := 65) hx hb dX4_giveLift_56 (by decide) ?_
            refine lv_aload hx hb dX4_giveLift_65 (lv_at hl 1 rfl) ?_
            refine lv_astore_n (lv' := [(2, .ref (A 5 i)), (6, .int (dScore t pr i (t 8 r))), (5, .ref (A 5 i)), (0, .ref (A 0 0)), (1, .ref (A 6 r)), (3, .int a9), (4, .int (nI i))]) hx hb dX4_giveLift_67 rfl hl (by decide) rfl (fun ls hl => ?_)
            refine lv_iload hx hb dX4_giveLift_68 (lv_at hl 1 rfl) ?_
            refine lv_istore_n (lv' := [(3, .int (dScore t pr i (t 8 r))), (2, .ref (A 5 i)), (6, .int (dScore t pr i (t 8 r))), (5, .ref (A 5 i)), (0, .ref (A 0 0)), (1, .ref (A 6 r)), (4, .int (nI i))]) hx hb dX4_giveLift_70 rfl hl (by decide) rfl (fun ls hl => ?_)
            refine lv_iinc (v := (nI (i + 1))) (lv' := [(4, .int (nI (i + 1))), (3, .int (dScore t pr i (t 8 r))), (2, .ref (A 5 i)), (6, .int (dScore t pr i (t 8 r))), (5, .ref (A 5 i)), (0, .ref (A 0 0)), (1, .ref (A 6 r))]) hx hb dX4_giveLift_71 hl (k := 6) rfl (by rw [nI_succ]; rfl) (by decide) rfl (fun ls hl => ?_)
            refine lv_goto (tgt := 7) hx hb dX4_giveLift_74 (by decide) ?_
            exact ihLP (i + 1) (some i) (dScore t pr i (t 8 r)) (by omega) (by omega) (by simp only [dBst, ← hbo, eq_false c_1, eq_true c_3, if_true, if_false, reduceIte, true_and, and_true, false_and, and_false, true_or, or_true, false_or, or_false, not_true_eq_false, not_false_eq_true, decide_true, decide_false, Bool.true_and, Bool.and_true, Bool.false_and, Bool.and_false, Bool.not_true, Bool.not_false, Bool.or_false, Bool.false_or, Bool.or_true, Bool.true_or]) (fun b hb9 => by cases hb9; omega) (fun b hb9 => by cases hb9; rfl) H locs hS hP ls (lv_sub hl [5, 6, 2, 1, 0] rfl)
          · have hb0 : b0 < i := hbl b0 rfl
            have hb0l : b0 < nl := by omega
            have hle0 := hle b0 rfl
            subst hle0
            have hl : lv_has ls 7 [(6, .int (dScore t pr i (t 8 r))), (5, .ref (A 5 i)), (0, .ref (A 0 0)), (1, .ref (A 6 r)), (2, .ref (A 5 b0)), (3, .int (dScore t pr b0 (t 8 r))), (4, .int (nI i))] := hl
            refine lv_aload_n hx hb dX4_giveLift_55 rfl (lv_at hl 4 rfl) ?_
            refine lv_ifnull hx hb dX4_giveLift_56 ?_
            refine lv_iload hx hb dX4_giveLift_59 (lv_at hl 0 rfl) ?_
            refine lv_iload_n hx hb dX4_giveLift_61 rfl (lv_at hl 5 rfl) ?_
            refine lv_icmp_ge (tgt := 71) hx hb dX4_giveLift_62 (by decide) (fun c_4 => ?_) (fun c_4 => ?_)
            · refine lv_iinc (v := (nI (i + 1))) (lv' := [(4, .int (nI (i + 1))), (6, .int (dScore t pr i (t 8 r))), (5, .ref (A 5 i)), (0, .ref (A 0 0)), (1, .ref (A 6 r)), (2, .ref (A 5 b0)), (3, .int (dScore t pr b0 (t 8 r)))]) hx hb dX4_giveLift_71 hl (k := 6) rfl (by rw [nI_succ]; rfl) (by decide) rfl (fun ls hl => ?_)
              refine lv_goto (tgt := 7) hx hb dX4_giveLift_74 (by decide) ?_
              exact ihLP (i + 1) (some b0) (dScore t pr b0 (t 8 r)) (by omega) (by omega) (by simp only [dBst, ← hbo, eq_false c_1, eq_true c_3, eq_true c_4, if_true, if_false, reduceIte, true_and, and_true, false_and, and_false, true_or, or_true, false_or, or_false, not_true_eq_false, not_false_eq_true, decide_true, decide_false, Bool.true_and, Bool.and_true, Bool.false_and, Bool.and_false, Bool.not_true, Bool.not_false, Bool.or_false, Bool.false_or, Bool.or_true, Bool.true_or]) (fun b hb9 => by cases hb9; omega) (fun b hb9 => by cases hb9; rfl) H locs hS hP ls (lv_sub hl [3, 4, 5, 6, 0] rfl)
            · refine lv_aload hx hb dX4_giveLift_65 (lv_at hl 1 rfl) ?_
              refine lv_astore_n (lv' := [(2, .ref (A 5 i)), (6, .int (dScore t pr i (t 8 r))), (5, .ref (A 5 i)), (0, .ref (A 0 0)), (1, .ref (A 6 r)), (3, .int (dScore t pr b0 (t 8 r))), (4, .int (nI i))]) hx hb dX4_giveLift_67 rfl hl (by decide) rfl (fun ls hl => ?_)
              refine lv_iload hx hb dX4_giveLift_68 (lv_at hl 1 rfl) ?_
              refine lv_istore_n (lv' := [(3, .int (dScore t pr i (t 8 r))), (2, .ref (A 5 i)), (6, .int (dScore t pr i (t 8 r))), (5, .ref (A 5 i)), (0, .ref (A 0 0)), (1, .ref (A 6 r)), (4, .int (nI i))]) hx hb dX4_giveLift_70 rfl hl (by decide) rfl (fun ls hl => ?_)
              refine lv_iinc (v := (nI (i + 1))) (lv' := [(4, .int (nI (i + 1))), (3, .int (dScore t pr i (t 8 r))), (2, .ref (A 5 i)), (6, .int (dScore t pr i (t 8 r))), (5, .ref (A 5 i)), (0, .ref (A 0 0)), (1, .ref (A 6 r))]) hx hb dX4_giveLift_71 hl (k := 6) rfl (by rw [nI_succ]; rfl) (by decide) rfl (fun ls hl => ?_)
              refine lv_goto (tgt := 7) hx hb dX4_giveLift_74 (by decide) ?_
              exact ihLP (i + 1) (some i) (dScore t pr i (t 8 r)) (by omega) (by omega) (by simp only [dBst, ← hbo, eq_false c_1, eq_true c_3, eq_false c_4, if_true, if_false, reduceIte, true_and, and_true, false_and, and_false, true_or, or_true, false_or, or_false, not_true_eq_false, not_false_eq_true, decide_true, decide_false, Bool.true_and, Bool.and_true, Bool.false_and, Bool.and_false, Bool.not_true, Bool.not_false, Bool.or_false, Bool.false_or, Bool.or_true, Bool.true_or]) (fun b hb9 => by cases hb9; omega) (fun b hb9 => by cases hb9; rfl) H locs hS hP ls (lv_sub hl [5, 6, 2, 1, 0] rfl)
  exact LP (nl + 1) 0 none 0 (Nat.zero_le _) (by omega) rfl (fun b hb9 => by cases hb9) (fun b hb9 => by cases hb9) _ _ hS hP ls (lv_sub hl [3, 4, 2, 1, 0] rfl)

set_option maxHeartbeats 4000000 in
set_option maxRecDepth 100000 in
theorem c_X4_giveLiftsToAll (l : Launch) (g : cG) (F : Nat → Prop) (A : Nat → Nat → Nat) (nb nl nr ne : Nat) (pr : List Nat) (t : TT)   : CT l yX4_giveLiftsToAll cX4_giveLiftsToAll 3 none 5 114 0 0 g F [.ref (A 0 0)] (PD g F A nb nl nr ne pr t) (fun v9 H9 => v9 = none ∧ PD g F A nb nl nr ne pr (dGall t pr nl pr.length) H9) := by
  refine CT.of (by decide) rfl ?_
  intro p e s m args below meth c E hr hk hnm hP ls hl
  have hS : va_S (nF F) s.heap s.heap [] := va_S.rf
  have hx := E.1
  have hb := E.2.1
  have hE_ml := E.2.2.1
  have hown := E.2.2.2.1
  have hts := E.2.2.2.2.1
  have hG := E.2.2.2.2.2
  have hd0 := hP.di.1
  have hl : lv_has ls 3 [(0, .ref (A 0 0))] := hl
  refine lv_iconst (v := 0) hx hb dX4_giveLiftsToAll_0 (by decide) ?_
  refine lv_istore_n (lv' := [(1, .int 0), (0, .ref (A 0 0))]) hx hb dX4_giveLiftsToAll_1 rfl hl (by decide) rfl (fun ls hl => ?_)
  have LP : ∀ (n9 i : Nat) (ti : TT), i ≤ pr.length → pr.length < i + n9 → (ti = dGall t pr nl i) → ∀ (H : Heap) (locs : List Loc), va_S (nF F) s.heap H locs → PD g F A nb nl nr ne pr ti H → ∀ (ls : Array Slot), lv_has ls 3 [(0, .ref (A 0 0)), (1, .int (nI i))] → W p l e { frames := 5, cells := 0, slots := 0, locals := 114 } s m args below meth c H locs 0 0 (MQ below (Qg F (fun v9 H9 => v9 = none ∧ PD g F A nb nl nr ne pr (dGall t pr nl pr.length) H9)) args s 0 0 (nF F)) (F0 m 2 ls []) := by
    intro n9
    induction n9 with
    | zero => intro i ti hi9 hn9; exact absurd hn9 (by omega)
    | succ n9 ihLP =>
      intro i ti hi_LP hn_LP hti H locs hS hP ls hl
      have hd1 := hP.di.1
      refine lv_iload_n hx hb dX4_giveLiftsToAll_2 rfl (lv_at hl 1 rfl) ?_
      refine lv_aload_n hx hb dX4_giveLiftsToAll_3 rfl (lv_at hl 0 rfl) ?_
      refine dg E hP 6 fk_X4_32 dX4_giveLiftsToAll_4 (v := .ref (A 2 3)) (kk := ?_)
      refine d_len E hS hP 3 pr.length hl ⟨rfl, rfl⟩ ⟨Nat.le_refl _, Nat.le_refl _⟩ dX4_giveLiftsToAll_7 (kk := fun locs hS => ?_)
      refine lv_icmp_ge (tgt := 52) hx hb dX4_giveLiftsToAll_10 (by decide) (fun c_1 => ?_) (fun c_1 => ?_)
      · have n_c_1 : pr.length ≤ i := (nI_leI (by omega) (by omega)).mp c_1
        have e2 : (dGall t pr nl pr.length) = ti := by rw [hti, show i = pr.length by omega]
        exact ct_vret E hr hk hS ⟨rfl, (by rw [e2]; exact hP)⟩ dX4_giveLiftsToAll_52
      · have n_c_1 : i < pr.length := Nat.lt_of_not_le (fun h9 => c_1 (nI_le h9 (by omega)))
        refine lv_aload_n hx hb dX4_giveLiftsToAll_13 rfl (lv_at hl 0 rfl) ?_
        refine dg E hP 6 fk_X4_32 dX4_giveLiftsToAll_14 (v := .ref (A 2 3)) (kk := ?_)
        refine lv_iload_n hx hb dX4_giveLiftsToAll_17 rfl (lv_at hl 1 rfl) ?_
        refine d_getP E hS hP i rfl (by omega) hl ⟨rfl, rfl⟩ ⟨Nat.le_refl _, Nat.le_refl _⟩ dX4_giveLiftsToAll_18 dX4_giveLiftsToAll_21 (kk := fun r_2 hr_2 ir_2 pr_2 locs hS => ?_)
        refine lv_astore_n (lv' := [(2, .ref (A 6 r_2)), (0, .ref (A 0 0)), (1, .int (nI i))]) hx hb dX4_giveLiftsToAll_24 rfl hl (by decide) rfl (fun ls hl => ?_)
        refine lv_aload_n hx hb dX4_giveLiftsToAll_25 rfl (lv_at hl 0 rfl) ?_
        refine dgn E hP 6 r_2 hr_2 kcX3 4 fn_X4_140 dX4_giveLiftsToAll_26 (v := .int (ti 13 r_2)) (kk := ?_)
        refine lv_bipush (v := 119) hx hb dX4_giveLiftsToAll_29 (by decide) ?_
        refine lv_icmp_ne (tgt := 46) hx hb dX4_giveLiftsToAll_31 (by decide) (fun c_3 => ?_) (fun c_3 => ?_)
        · refine lv_iinc (v := (nI (i + 1))) (lv' := [(1, .int (nI (i + 1))), (2, .ref (A 6 r_2)), (0, .ref (A 0 0))]) hx hb dX4_giveLiftsToAll_46 hl (k := 2) rfl (by rw [nI_succ]; rfl) (by decide) rfl (fun ls hl => ?_)
          refine lv_goto (tgt := 2) hx hb dX4_giveLiftsToAll_49 (by decide) ?_
          exact ihLP (i + 1) ti (by omega) (by omega) (by simp only [dGall, dGs, ← hti, pr_2, eq_false c_1, eq_false c_3, if_true, if_false, reduceIte, true_and, and_true, false_and, and_false, true_or, or_true, false_or, or_false, not_true_eq_false, not_false_eq_true, decide_true, decide_false, Bool.true_and, Bool.and_true, Bool.false_and, Bool.and_false, Bool.not_true, Bool.not_false, Bool.or_false, Bool.false_or, Bool.or_true, Bool.true_or]) H locs hS hP ls (lv_sub hl [2, 0] rfl)
        · refine lv_aload_n hx hb dX4_giveLiftsToAll_34 rfl (lv_at hl 0 rfl) ?_
          refine dgn E hP 6 r_2 hr_2 kcX3 5 fn_X4_144 dX4_giveLiftsToAll_35 (v := va_rf (lref A (ti 10 r_2))) (kk := ?_)
          refine lv_ifnonnullL (tgt := 46) (x := ti 10 r_2) hx hb dX4_giveLiftsToAll_38 (by decide) (fun c_4 => ?_) (fun c_4 => ?_)
          · refine lv_iinc (v := (nI (i + 1))) (lv' := [(1, .int (nI (i + 1))), (2, .ref (A 6 r_2)), (0, .ref (A 0 0))]) hx hb dX4_giveLiftsToAll_46 hl (k := 2) rfl (by rw [nI_succ]; rfl) (by decide) rfl (fun ls hl => ?_)
            refine lv_goto (tgt := 2) hx hb dX4_giveLiftsToAll_49 (by decide) ?_
            exact ihLP (i + 1) ti (by omega) (by omega) (by simp only [dGall, dGs, ← hti, pr_2, eq_false c_1, eq_true c_3, eq_false c_4, if_true, if_false, reduceIte, true_and, and_true, false_and, and_false, true_or, or_true, false_or, or_false, not_true_eq_false, not_false_eq_true, decide_true, decide_false, Bool.true_and, Bool.and_true, Bool.false_and, Bool.and_false, Bool.not_true, Bool.not_false, Bool.or_false, Bool.false_or, Bool.or_true, Bool.true_or]) H locs hS hP ls (lv_sub hl [2, 0] rfl)
          · refine lv_aload_n hx hb dX4_giveLiftsToAll_41 rfl (lv_at hl 1 rfl) ?_
            refine lv_aload_n hx hb dX4_giveLiftsToAll_42 rfl (lv_at hl 0 rfl) ?_
            refine ct_V E hS (c_X4_giveLift l g F A nb nl nr ne pr ti r_2 hr_2) ok_X4_giveLift lk_X4_132 hP (hP.recv hG) rfl hl ⟨rfl, rfl⟩ rfl ⟨Nat.le_refl _, Nat.le_refl _⟩ dX4_giveLiftsToAll_43 rfl (fun v9 H locs hv9 hS hz9 => ?_)
            obtain ⟨rfl, hP⟩ := hv9
            refine lv_iinc (v := (nI (i + 1))) (lv' := [(1, .int (nI (i + 1))), (2, .ref (A 6 r_2)), (0, .ref (A 0 0))]) hx hb dX4_giveLiftsToAll_46 hl (k := 2) rfl (by rw [nI_succ]; rfl) (by decide) rfl (fun ls hl => ?_)
            refine lv_goto (tgt := 2) hx hb dX4_giveLiftsToAll_49 (by decide) ?_
            exact ihLP (i + 1) (dGive ti pr nl r_2) (by omega) (by omega) (by simp only [dGall, dGs, ← hti, pr_2, eq_false c_1, eq_true c_3, eq_true c_4, if_true, if_false, reduceIte, true_and, and_true, false_and, and_false, true_or, or_true, false_or, or_false, not_true_eq_false, not_false_eq_true, decide_true, decide_false, Bool.true_and, Bool.and_true, Bool.false_and, Bool.and_false, Bool.not_true, Bool.not_false, Bool.or_false, Bool.false_or, Bool.or_true, Bool.true_or]) H locs hS hP ls (lv_sub hl [2, 0] rfl)
  exact LP (pr.length + 1) 0 t (Nat.zero_le _) (by omega) rfl _ _ hS hP ls (lv_sub hl [1, 0] rfl)

set_option maxHeartbeats 4000000 in
set_option maxRecDepth 100000 in
theorem c_X4_loseLift (l : Launch) (g : cG) (F : Nat → Prop) (A : Nat → Nat → Nat) (nb nl nr ne : Nat) (pr : List Nat) (t : TT) (q : Nat) (hq : q < nl) : CT l yX4_loseLift cX4_loseLift 5 (some .int) 3 64 0 0 g F [.ref (A 0 0), .ref (A 5 q)] (PD g F A nb nl nr ne pr t) (fun v9 H9 => v9 = some (.int ((dLose t pr q pr.length).2)) ∧ PD g F A nb nl nr ne pr ((dLose t pr q pr.length).1) H9) := by
  refine CT.of (by decide) rfl ?_
  intro p e s m args below meth c E hr hk hnm hP ls hl
  have hS : va_S (nF F) s.heap s.heap [] := va_S.rf
  have hx := E.1
  have hb := E.2.1
  have hE_ml := E.2.2.1
  have hown := E.2.2.2.1
  have hts := E.2.2.2.2.1
  have hG := E.2.2.2.2.2
  have hd0 := hP.di.1
  have hl : lv_has ls 5 [(0, .ref (A 0 0)), (1, .ref (A 5 q))] := hl
  refine lv_iconst (v := 0) hx hb dX4_loseLift_0 (by decide) ?_
  refine lv_istore_n (lv' := [(2, .int 0), (0, .ref (A 0 0)), (1, .ref (A 5 q))]) hx hb dX4_loseLift_1 rfl hl (by decide) rfl (fun ls hl => ?_)
  refine lv_iconst (v := 0) hx hb dX4_loseLift_2 (by decide) ?_
  refine lv_istore_n (lv' := [(3, .int 0), (2, .int 0), (0, .ref (A 0 0)), (1, .ref (A 5 q))]) hx hb dX4_loseLift_3 rfl hl (by decide) rfl (fun ls hl => ?_)
  have LP : ∀ (n9 i : Nat) (ti : TT) (a9 : Int32), i ≤ pr.length → pr.length < i + n9 → (ti = (dLose t pr q i).1) → (a9 = (dLose t pr q i).2) → ∀ (H : Heap) (locs : List Loc), va_S (nF F) s.heap H locs → PD g F A nb nl nr ne pr ti H → ∀ (ls : Array Slot), lv_has ls 5 [(0, .ref (A 0 0)), (1, .ref (A 5 q)), (2, .int a9), (3, .int (nI i))] → W p l e { frames := 3, cells := 0, slots := 0, locals := 64 } s m args below meth c H locs 0 0 (MQ below (Qg F (fun v9 H9 => v9 = some (.int ((dLose t pr q pr.length).2)) ∧ PD g F A nb nl nr ne pr ((dLose t pr q pr.length).1) H9)) args s 0 0 (nF F)) (F0 m 4 ls []) := by
    intro n9
    induction n9 with
    | zero => intro i ti a9 hi9 hn9; exact absurd hn9 (by omega)
    | succ n9 ihLP =>
      intro i ti a9 hi_LP hn_LP hti ha H locs hS hP ls hl
      have hd1 := hP.di.1
      refine lv_iload_n hx hb dX4_loseLift_4 rfl (lv_at hl 3 rfl) ?_
      refine lv_aload_n hx hb dX4_loseLift_5 rfl (lv_at hl 0 rfl) ?_
      refine dg E hP 6 fk_X4_32 dX4_loseLift_6 (v := .ref (A 2 3)) (kk := ?_)
      refine d_len E hS hP 3 pr.length hl ⟨rfl, rfl⟩ ⟨Nat.le_refl _, Nat.le_refl _⟩ dX4_loseLift_9 (kk := fun locs hS => ?_)
      refine lv_icmp_ge (tgt := 52) hx hb dX4_loseLift_12 (by decide) (fun c_1 => ?_) (fun c_1 => ?_)
      · have n_c_1 : pr.length ≤ i := (nI_leI (by omega) (by omega)).mp c_1
        refine lv_iload_n hx hb dX4_loseLift_52 rfl (lv_at hl 2 rfl) ?_
        have e1 : ((dLose t pr q pr.length).2) = a9 := by rw [ha, show i = pr.length by omega]
        have e2 : ((dLose t pr q pr.length).1) = ti := by rw [hti, show i = pr.length by omega]
        exact ct_iret E hr hk hS ⟨(by rw [e1]), (by rw [e2]; exact hP)⟩ dX4_loseLift_53
      · have n_c_1 : i < pr.length := Nat.lt_of_not_le (fun h9 => c_1 (nI_le h9 (by omega)))
        refine lv_aload_n hx hb dX4_loseLift_15 rfl (lv_at hl 0 rfl) ?_
        refine dg E hP 6 fk_X4_32 dX4_loseLift_16 (v := .ref (A 2 3)) (kk := ?_)
        refine lv_iload_n hx hb dX4_loseLift_19 rfl (lv_at hl 3 rfl) ?_
        refine d_getP E hS hP i rfl (by omega) hl ⟨rfl, rfl⟩ ⟨Nat.le_refl _, Nat.le_refl _⟩ dX4_loseLift_20 dX4_loseLift_23 (kk := fun r_2 hr_2 ir_2 pr_2 locs hS => ?_)
        refine lv_astore (lv' := [(4, .ref (A 6 r_2)), (0, .ref (A 0 0)), (1, .ref (A 5 q)), (2, .int a9), (3, .int (nI i))]) hx hb dX4_loseLift_26 hl (by decide) rfl (fun ls hl => ?_)
        refine lv_aload hx hb dX4_loseLift_28 (lv_at hl 0 rfl) ?_
        refine lv_aload_n hx hb dX4_loseLift_30 rfl (lv_at hl 2 rfl) ?_
        refine d_waitsFor E hS hP hr_2 hq hl ⟨rfl, rfl⟩ ⟨Nat.le_refl _, Nat.le_refl _⟩ dX4_loseLift_31 (kk := fun locs hS => ?_)
        refine bz_eq (tgt := 46) hx hb dX4_loseLift_34 (by decide) (fun c_3 => ?_) (fun c_3 => ?_)
        · refine lv_iinc (v := (nI (i + 1))) (lv' := [(3, .int (nI (i + 1))), (4, .ref (A 6 r_2)), (0, .ref (A 0 0)), (1, .ref (A 5 q)), (2, .int a9)]) hx hb dX4_loseLift_46 hl (k := 4) rfl (by rw [nI_succ]; rfl) (by decide) rfl (fun ls hl => ?_)
          refine lv_goto (tgt := 4) hx hb dX4_loseLift_49 (by decide) ?_
          exact ihLP (i + 1) ti a9 (by omega) (by omega) (by simp only [dLose, dLs, ← hti, ← ha, pr_2, eq_false c_1, eq_false c_3, if_true, if_false, reduceIte, true_and, and_true, false_and, and_false, true_or, or_true, false_or, or_false, not_true_eq_false, not_false_eq_true, decide_true, decide_false, Bool.true_and, Bool.and_true, Bool.false_and, Bool.and_false, Bool.not_true, Bool.not_false, Bool.or_false, Bool.false_or, Bool.or_true, Bool.true_or]) (by simp only [dLose, dLs, ← hti, ← ha, pr_2, eq_false c_1, eq_false c_3, if_true, if_false, reduceIte, true_and, and_true, false_and, and_false, true_or, or_true, false_or, or_false, not_true_eq_false, not_false_eq_true, decide_true, decide_false, Bool.true_and, Bool.and_true, Bool.false_and, Bool.and_false, Bool.not_true, Bool.not_false, Bool.or_false, Bool.false_or, Bool.or_true, Bool.true_or]) H locs hS hP ls (lv_sub hl [2, 3, 4, 0] rfl)
        · refine lv_aload hx hb dX4_loseLift_37 (lv_at hl 0 rfl) ?_
          refine lv_null hx hb dX4_loseLift_39 ?_
          refine dpn E hS hP 6 r_2 hr_2 kcX3 5 10 (x := (-1)) fn_X4_144 hs_10n (hP.di.p10 (Or.inl rfl)) rfl rfl dX4_loseLift_40 (kk := fun H locs hS hP => ?_)
          refine lv_iinc (v := a9 + 1) (lv' := [(2, .int (a9 + 1)), (4, .ref (A 6 r_2)), (0, .ref (A 0 0)), (1, .ref (A 5 q)), (3, .int (nI i))]) hx hb dX4_loseLift_43 hl (k := 3) rfl (by rfl) (by decide) rfl (fun ls hl => ?_)
          refine lv_iinc (v := (nI (i + 1))) (lv' := [(3, .int (nI (i + 1))), (2, .int (a9 + 1)), (4, .ref (A 6 r_2)), (0, .ref (A 0 0)), (1, .ref (A 5 q))]) hx hb dX4_loseLift_46 hl (k := 4) rfl (by rw [nI_succ]; rfl) (by decide) rfl (fun ls hl => ?_)
          refine lv_goto (tgt := 4) hx hb dX4_loseLift_49 (by decide) ?_
          exact ihLP (i + 1) (tu ti 10 r_2 (-1)) (a9 + 1) (by omega) (by omega) (by simp only [dLose, dLs, ← hti, ← ha, pr_2, eq_false c_1, eq_true c_3, if_true, if_false, reduceIte, true_and, and_true, false_and, and_false, true_or, or_true, false_or, or_false, not_true_eq_false, not_false_eq_true, decide_true, decide_false, Bool.true_and, Bool.and_true, Bool.false_and, Bool.and_false, Bool.not_true, Bool.not_false, Bool.or_false, Bool.false_or, Bool.or_true, Bool.true_or]) (by simp only [dLose, dLs, ← hti, ← ha, pr_2, eq_false c_1, eq_true c_3, if_true, if_false, reduceIte, true_and, and_true, false_and, and_false, true_or, or_true, false_or, or_false, not_true_eq_false, not_false_eq_true, decide_true, decide_false, Bool.true_and, Bool.and_true, Bool.false_and, Bool.and_false, Bool.not_true, Bool.not_false, Bool.or_false, Bool.false_or, Bool.or_true, Bool.true_or]) H locs hS hP ls (lv_sub hl [3, 4, 1, 0] rfl)
  exact LP (pr.length + 1) 0 t 0 (Nat.zero_le _) (by omega) rfl rfl _ _ hS hP ls (lv_sub hl [2, 3, 1, 0] rfl)

set_option maxHeartbeats 4000000 in
set_option maxRecDepth 100000 in
theorem c_X4_giveLiftsInTurn (l : Launch) (g : cG) (F : Nat → Prop) (A : Nat → Nat → Nat) (nb nl nr ne : Nat) (pr : List Nat) (t : TT)   : CT l yX4_giveLiftsInTurn cX4_giveLiftsInTurn 4 none 5 114 0 0 g F [.ref (A 0 0)] (PD g F A nb nl nr ne pr t) (fun v9 H9 => v9 = none ∧ PD g F A nb nl nr ne pr (dInT t pr nl) H9) := by
  refine CT.of (by decide) rfl ?_
  intro p e s m args below meth c E hr hk hnm hP ls hl
  have hS : va_S (nF F) s.heap s.heap [] := va_S.rf
  have hx := E.1
  have hb := E.2.1
  have hE_ml := E.2.2.1
  have hown := E.2.2.2.1
  have hts := E.2.2.2.2.1
  have hG := E.2.2.2.2.2
  have hd0 := hP.di.1
  have hl : lv_has ls 4 [(0, .ref (A 0 0))] := hl
  refine lv_aload_n hx hb dX4_giveLiftsInTurn_0 rfl (lv_at hl 0 rfl) ?_
  refine ct_V E hS (c_X4_floorInTurn l g F A nb nl nr ne pr t ) ok_X4_floorInTurn lk_X4_204 hP (hP.recv hG) rfl hl ⟨rfl, rfl⟩ rfl ⟨Nat.le_refl _, Nat.le_refl _⟩ dX4_giveLiftsInTurn_1 rfl (fun v9 H locs hv9 hS hz9 => ?_)
  obtain ⟨rfl, hP⟩ := hv9
  refine lv_istore_n (lv' := [(1, .int (dTurn t pr)), (0, .ref (A 0 0))]) hx hb dX4_giveLiftsInTurn_4 rfl hl (by decide) rfl (fun ls hl => ?_)
  refine lv_iconst (v := 0) hx hb dX4_giveLiftsInTurn_5 (by decide) ?_
  refine lv_istore_n (lv' := [(2, .int 0), (1, .int (dTurn t pr)), (0, .ref (A 0 0))]) hx hb dX4_giveLiftsInTurn_6 rfl hl (by decide) rfl (fun ls hl => ?_)
  have LA : ∀ (n9 i : Nat) (ti : TT), i ≤ nl → nl < i + n9 → (ti = dLall t pr i) → ∀ (H : Heap) (locs : List Loc), va_S (nF F) s.heap H locs → PD g F A nb nl nr ne pr ti H → ∀ (ls : Array Slot), lv_has ls 4 [(0, .ref (A 0 0)), (1, .int (dTurn t pr)), (2, .int (nI i))] → W p l e { frames := 5, cells := 0, slots := 0, locals := 114 } s m args below meth c H locs 0 0 (MQ below (Qg F (fun v9 H9 => v9 = none ∧ PD g F A nb nl nr ne pr (dInT t pr nl) H9)) args s 0 0 (nF F)) (F0 m 7 ls []) := by
    intro n9
    induction n9 with
    | zero => intro i ti hi9 hn9; exact absurd hn9 (by omega)
    | succ n9 ihLA =>
      intro i ti hi_LA hn_LA hti H locs hS hP ls hl
      have hd1 := hP.di.1
      refine lv_iload_n hx hb dX4_giveLiftsInTurn_7 rfl (lv_at hl 2 rfl) ?_
      refine lv_aload_n hx hb dX4_giveLiftsInTurn_8 rfl (lv_at hl 0 rfl) ?_
      refine dg E hP 4 fk_X4_26 dX4_giveLiftsInTurn_9 (v := .ref (A 2 1)) (kk := ?_)
      refine d_len E hS hP 1 nl hl ⟨rfl, rfl⟩ ⟨Nat.le_refl _, Nat.le_refl _⟩ dX4_giveLiftsInTurn_12 (kk := fun locs hS => ?_)
      refine lv_icmp_ge (tgt := 40) hx hb dX4_giveLiftsInTurn_15 (by decide) (fun c_1 => ?_) (fun c_1 => ?_)
      · have n_c_1 : nl ≤ i := (nI_leI (by omega) (by omega)).mp c_1
        refine lv_iconst (v := 0) hx hb dX4_giveLiftsInTurn_40 (by decide) ?_
        refine lv_istore_n (lv' := [(2, .int 0), (0, .ref (A 0 0)), (1, .int (dTurn t pr))]) hx hb dX4_giveLiftsInTurn_41 rfl hl (by decide) rfl (fun ls hl => ?_)
        have LB : ∀ (n9 j : Nat) (tj : TT), j ≤ pr.length → pr.length < j + n9 → (tj = dTall ti pr nl (dTurn t pr) j) → ∀ (H : Heap) (locs : List Loc), va_S (nF F) s.heap H locs → PD g F A nb nl nr ne pr tj H → ∀ (ls : Array Slot), lv_has ls 4 [(0, .ref (A 0 0)), (1, .int (dTurn t pr)), (2, .int (nI j))] → W p l e { frames := 5, cells := 0, slots := 0, locals := 114 } s m args below meth c H locs 0 0 (MQ below (Qg F (fun v9 H9 => v9 = none ∧ PD g F A nb nl nr ne pr (dInT t pr nl) H9)) args s 0 0 (nF F)) (F0 m 42 ls []) := by
          intro n9
          induction n9 with
          | zero => intro j tj hi9 hn9; exact absurd hn9 (by omega)
          | succ n9 ihLB =>
            intro j tj hi_LB hn_LB htj H locs hS hP ls hl
            have hd1 := hP.di.1
            refine lv_iload_n hx hb dX4_giveLiftsInTurn_42 rfl (lv_at hl 2 rfl) ?_
            refine lv_aload_n hx hb dX4_giveLiftsInTurn_43 rfl (lv_at hl 0 rfl) ?_
            refine dg E hP 6 fk_X4_32 dX4_giveLiftsInTurn_44 (v := .ref (A 2 3)) (kk := ?_)
            refine d_len E hS hP 3 pr.length hl ⟨rfl, rfl⟩ ⟨Nat.le_refl _, Nat.le_refl _⟩ dX4_giveLiftsInTurn_47 (kk := fun locs hS => ?_)
            refine lv_icmp_ge (tgt := 93) hx hb dX4_giveLiftsInTurn_50 (by decide) (fun c_2 => ?_) (fun c_2 => ?_)
            · have n_c_2 : pr.length ≤ j := (nI_leI (by omega) (by omega)).mp c_2
              have e2 : (dInT t pr nl) = tj := by rw [dInT, htj, hti, show j = pr.length by omega, show i = nl by omega]
              exact ct_vret E hr hk hS ⟨rfl, (by rw [e2]; exact hP)⟩ dX4_giveLiftsInTurn_93
            · have n_c_2 : j < pr.length := Nat.lt_of_not_le (fun h9 => c_2 (nI_le h9 (by omega)))
              refine lv_aload_n hx hb dX4_giveLiftsInTurn_53 rfl (lv_at hl 0 rfl) ?_
              refine dg E hP 6 fk_X4_32 dX4_giveLiftsInTurn_54 (v := .ref (A 2 3)) (kk := ?_)
              refine lv_iload_n hx hb dX4_giveLiftsInTurn_57 rfl (lv_at hl 2 rfl) ?_
              refine d_getP E hS hP j rfl (by omega) hl ⟨rfl, rfl⟩ ⟨Nat.le_refl _, Nat.le_refl _⟩ dX4_giveLiftsInTurn_58 dX4_giveLiftsInTurn_61 (kk := fun r_3 hr_3 ir_3 pr_3 locs hS => ?_)
              refine lv_astore_n (lv' := [(3, .ref (A 6 r_3)), (0, .ref (A 0 0)), (1, .int (dTurn t pr)), (2, .int (nI j))]) hx hb dX4_giveLiftsInTurn_64 rfl hl (by decide) rfl (fun ls hl => ?_)
              refine lv_aload_n hx hb dX4_giveLiftsInTurn_65 rfl (lv_at hl 0 rfl) ?_
              refine dgn E hP 6 r_3 hr_3 kcX3 4 fn_X4_140 dX4_giveLiftsInTurn_66 (v := .int (tj 13 r_3)) (kk := ?_)
              refine lv_bipush (v := 119) hx hb dX4_giveLiftsInTurn_69 (by decide) ?_
              refine lv_icmp_ne (tgt := 87) hx hb dX4_giveLiftsInTurn_71 (by decide) (fun c_4 => ?_) (fun c_4 => ?_)
              · refine lv_iinc (v := (nI (j + 1))) (lv' := [(2, .int (nI (j + 1))), (3, .ref (A 6 r_3)), (0, .ref (A 0 0)), (1, .int (dTurn t pr))]) hx hb dX4_giveLiftsInTurn_87 hl (k := 3) rfl (by rw [nI_succ]; rfl) (by decide) rfl (fun ls hl => ?_)
                refine lv_goto (tgt := 42) hx hb dX4_giveLiftsInTurn_90 (by decide) ?_
                exact ihLB (j + 1) tj (by omega) (by omega) (by simp only [dTall, dTs, ← htj, pr_3, eq_true c_1, eq_false c_2, eq_false c_4, if_true, if_false, reduceIte, true_and, and_true, false_and, and_false, true_or, or_true, false_or, or_false, not_true_eq_false, not_false_eq_true, decide_true, decide_false, Bool.true_and, Bool.and_true, Bool.false_and, Bool.and_false, Bool.not_true, Bool.not_false, Bool.or_false, Bool.false_or, Bool.or_true, Bool.true_or]) H locs hS hP ls (lv_sub hl [2, 3, 0] rfl)
              · refine lv_aload_n hx hb dX4_giveLiftsInTurn_74 rfl (lv_at hl 0 rfl) ?_
                refine dgn E hP 6 r_3 hr_3 kcX3 2 fn_X4_151 dX4_giveLiftsInTurn_75 (v := .int (tj 8 r_3)) (kk := ?_)
                refine lv_iload_n hx hb dX4_giveLiftsInTurn_78 rfl (lv_at hl 2 rfl) ?_
                refine lv_icmp_ne (tgt := 87) hx hb dX4_giveLiftsInTurn_79 (by decide) (fun c_5 => ?_) (fun c_5 => ?_)
                · refine lv_iinc (v := (nI (j + 1))) (lv' := [(2, .int (nI (j + 1))), (3, .ref (A 6 r_3)), (0, .ref (A 0 0)), (1, .int (dTurn t pr))]) hx hb dX4_giveLiftsInTurn_87 hl (k := 3) rfl (by rw [nI_succ]; rfl) (by decide) rfl (fun ls hl => ?_)
                  refine lv_goto (tgt := 42) hx hb dX4_giveLiftsInTurn_90 (by decide) ?_
                  exact ihLB (j + 1) tj (by omega) (by omega) (by simp only [dTall, dTs, ← htj, pr_3, eq_true c_1, eq_false c_2, eq_true c_4, eq_false c_5, if_true, if_false, reduceIte, true_and, and_true, false_and, and_false, true_or, or_true, false_or, or_false, not_true_eq_false, not_false_eq_true, decide_true, decide_false, Bool.true_and, Bool.and_true, Bool.false_and, Bool.and_false, Bool.not_true, Bool.not_false, Bool.or_false, Bool.false_or, Bool.or_true, Bool.true_or]) H locs hS hP ls (lv_sub hl [2, 3, 0] rfl)
                · refine lv_aload_n hx hb dX4_giveLiftsInTurn_82 rfl (lv_at hl 1 rfl) ?_
                  refine lv_aload_n hx hb dX4_giveLiftsInTurn_83 rfl (lv_at hl 0 rfl) ?_
                  refine ct_V E hS (c_X4_giveLift l g F A nb nl nr ne pr tj r_3 hr_3) ok_X4_giveLift lk_X4_132 hP (hP.recv hG) rfl hl ⟨rfl, rfl⟩ rfl ⟨Nat.le_refl _, Nat.le_refl _⟩ dX4_giveLiftsInTurn_84 rfl (fun v9 H locs hv9 hS hz9 => ?_)
                  obtain ⟨rfl, hP⟩ := hv9
                  refine lv_iinc (v := (nI (j + 1))) (lv' := [(2, .int (nI (j + 1))), (3, .ref (A 6 r_3)), (0, .ref (A 0 0)), (1, .int (dTurn t pr))]) hx hb dX4_giveLiftsInTurn_87 hl (k := 3) rfl (by rw [nI_succ]; rfl) (by decide) rfl (fun ls hl => ?_)
                  refine lv_goto (tgt := 42) hx hb dX4_giveLiftsInTurn_90 (by decide) ?_
                  exact ihLB (j + 1) (dGive tj pr nl r_3) (by omega) (by omega) (by simp only [dTall, dTs, ← htj, pr_3, eq_true c_1, eq_false c_2, eq_true c_4, eq_true c_5, if_true, if_false, reduceIte, true_and, and_true, false_and, and_false, true_or, or_true, false_or, or_false, not_true_eq_false, not_false_eq_true, decide_true, decide_false, Bool.true_and, Bool.and_true, Bool.false_and, Bool.and_false, Bool.not_true, Bool.not_false, Bool.or_false, Bool.false_or, Bool.or_true, Bool.true_or]) H locs hS hP ls (lv_sub hl [2, 3, 0] rfl)
        exact LB (pr.length + 1) 0 ti (Nat.zero_le _) (by omega) rfl _ _ hS hP ls (lv_sub hl [1, 2, 0] rfl)
      · have n_c_1 : i < nl := Nat.lt_of_not_le (fun h9 => c_1 (nI_le h9 (by omega)))
        refine lv_aload_n hx hb dX4_giveLiftsInTurn_18 rfl (lv_at hl 0 rfl) ?_
        refine lv_aload_n hx hb dX4_giveLiftsInTurn_19 rfl (lv_at hl 0 rfl) ?_
        refine dg E hP 4 fk_X4_26 dX4_giveLiftsInTurn_20 (v := .ref (A 2 1)) (kk := ?_)
        refine lv_iload_n hx hb dX4_giveLiftsInTurn_23 rfl (lv_at hl 2 rfl) ?_
        have h_6 : i < nl := by omega
        refine d_getL E hS hP i rfl h_6 hl ⟨rfl, rfl⟩ ⟨Nat.le_refl _, Nat.le_refl _⟩ dX4_giveLiftsInTurn_24 dX4_giveLiftsInTurn_27 (kk := fun locs hS => ?_)
        refine ct_V E hS (c_X4_loseLift l g F A nb nl nr ne pr ti i h_6) ok_X4_loseLift lk_X4_176 hP (hP.recv hG) rfl hl ⟨rfl, rfl⟩ rfl ⟨Nat.le_refl _, Nat.le_refl _⟩ dX4_giveLiftsInTurn_30 rfl (fun v9 H locs hv9 hS hz9 => ?_)
        obtain ⟨rfl, hP⟩ := hv9
        refine lv_pop hx hb dX4_giveLiftsInTurn_33 rfl ?_
        refine lv_iinc (v := (nI (i + 1))) (lv' := [(2, .int (nI (i + 1))), (0, .ref (A 0 0)), (1, .int (dTurn t pr))]) hx hb dX4_giveLiftsInTurn_34 hl (k := 2) rfl (by rw [nI_succ]; rfl) (by decide) rfl (fun ls hl => ?_)
        refine lv_goto (tgt := 7) hx hb dX4_giveLiftsInTurn_37 (by decide) ?_
        exact ihLA (i + 1) ((dLose ti pr i pr.length).1) (by omega) (by omega) (by rw [dLall, ← hti]) H locs hS hP ls (lv_sub hl [1, 2, 0] rfl)
  exact LA (nl + 1) 0 t (Nat.zero_le _) (by omega) rfl _ _ hS hP ls (lv_sub hl [2, 1, 0] rfl)

set_option maxHeartbeats 4000000 in
set_option maxRecDepth 100000 in
theorem c_X4_countWaiting (l : Launch) (g : cG) (F : Nat → Prop) (A : Nat → Nat → Nat) (nb nl nr ne : Nat) (pr : List Nat) (t : TT)   : CT l yX4_countWaiting cX4_countWaiting 3 none 3 64 0 0 g F [.ref (A 0 0)] (PD g F A nb nl nr ne pr t) (fun v9 H9 => v9 = none ∧ PD g F A nb nl nr ne pr (dCw t pr pr.length) H9) := by
  refine CT.of (by decide) rfl ?_
  intro p e s m args below meth c E hr hk hnm hP ls hl
  have hS : va_S (nF F) s.heap s.heap [] := va_S.rf
  have hx := E.1
  have hb := E.2.1
  have hE_ml := E.2.2.1
  have hown := E.2.2.2.1
  have hts := E.2.2.2.2.1
  have hG := E.2.2.2.2.2
  have hd0 := hP.di.1
  have hl : lv_has ls 3 [(0, .ref (A 0 0))] := hl
  refine lv_iconst (v := 0) hx hb dX4_countWaiting_0 (by decide) ?_
  refine lv_istore_n (lv' := [(1, .int 0), (0, .ref (A 0 0))]) hx hb dX4_countWaiting_1 rfl hl (by decide) rfl (fun ls hl => ?_)
  have LP : ∀ (n9 i : Nat) (ti : TT), i ≤ pr.length → pr.length < i + n9 → (ti = dCw t pr i) → ∀ (H : Heap) (locs : List Loc), va_S (nF F) s.heap H locs → PD g F A nb nl nr ne pr ti H → ∀ (ls : Array Slot), lv_has ls 3 [(0, .ref (A 0 0)), (1, .int (nI i))] → W p l e { frames := 3, cells := 0, slots := 0, locals := 64 } s m args below meth c H locs 0 0 (MQ below (Qg F (fun v9 H9 => v9 = none ∧ PD g F A nb nl nr ne pr (dCw t pr pr.length) H9)) args s 0 0 (nF F)) (F0 m 2 ls []) := by
    intro n9
    induction n9 with
    | zero => intro i ti hi9 hn9; exact absurd hn9 (by omega)
    | succ n9 ihLP =>
      intro i ti hi_LP hn_LP hti H locs hS hP ls hl
      have hd1 := hP.di.1
      refine lv_iload_n hx hb dX4_countWaiting_2 rfl (lv_at hl 1 rfl) ?_
      refine lv_aload_n hx hb dX4_countWaiting_3 rfl (lv_at hl 0 rfl) ?_
      refine dg E hP 6 fk_X4_32 dX4_countWaiting_4 (v := .ref (A 2 3)) (kk := ?_)
      refine d_len E hS hP 3 pr.length hl ⟨rfl, rfl⟩ ⟨Nat.le_refl _, Nat.le_refl _⟩ dX4_countWaiting_7 (kk := fun locs hS => ?_)
      refine lv_icmp_ge (tgt := 50) hx hb dX4_countWaiting_10 (by decide) (fun c_1 => ?_) (fun c_1 => ?_)
      · have n_c_1 : pr.length ≤ i := (nI_leI (by omega) (by omega)).mp c_1
        have e2 : (dCw t pr pr.length) = ti := by rw [hti, show i = pr.length by omega]
        exact ct_vret E hr hk hS ⟨rfl, (by rw [e2]; exact hP)⟩ dX4_countWaiting_50
      · have n_c_1 : i < pr.length := Nat.lt_of_not_le (fun h9 => c_1 (nI_le h9 (by omega)))
        refine lv_aload_n hx hb dX4_countWaiting_13 rfl (lv_at hl 0 rfl) ?_
        refine dg E hP 6 fk_X4_32 dX4_countWaiting_14 (v := .ref (A 2 3)) (kk := ?_)
        refine lv_iload_n hx hb dX4_countWaiting_17 rfl (lv_at hl 1 rfl) ?_
        refine d_getP E hS hP i rfl (by omega) hl ⟨rfl, rfl⟩ ⟨Nat.le_refl _, Nat.le_refl _⟩ dX4_countWaiting_18 dX4_countWaiting_21 (kk := fun r_2 hr_2 ir_2 pr_2 locs hS => ?_)
        refine lv_astore_n (lv' := [(2, .ref (A 6 r_2)), (0, .ref (A 0 0)), (1, .int (nI i))]) hx hb dX4_countWaiting_24 rfl hl (by decide) rfl (fun ls hl => ?_)
        refine lv_aload_n hx hb dX4_countWaiting_25 rfl (lv_at hl 0 rfl) ?_
        refine dgn E hP 6 r_2 hr_2 kcX3 4 fn_X4_140 dX4_countWaiting_26 (v := .int (ti 13 r_2)) (kk := ?_)
        refine lv_bipush (v := 119) hx hb dX4_countWaiting_29 (by decide) ?_
        refine lv_icmp_ne (tgt := 44) hx hb dX4_countWaiting_31 (by decide) (fun c_3 => ?_) (fun c_3 => ?_)
        · refine lv_iinc (v := (nI (i + 1))) (lv' := [(1, .int (nI (i + 1))), (2, .ref (A 6 r_2)), (0, .ref (A 0 0))]) hx hb dX4_countWaiting_44 hl (k := 2) rfl (by rw [nI_succ]; rfl) (by decide) rfl (fun ls hl => ?_)
          refine lv_goto (tgt := 2) hx hb dX4_countWaiting_47 (by decide) ?_
          exact ihLP (i + 1) ti (by omega) (by omega) (by simp only [dCw, dCs, ← hti, pr_2, eq_false c_1, eq_false c_3, if_true, if_false, reduceIte, true_and, and_true, false_and, and_false, true_or, or_true, false_or, or_false, not_true_eq_false, not_false_eq_true, decide_true, decide_false, Bool.true_and, Bool.and_true, Bool.false_and, Bool.and_false, Bool.not_true, Bool.not_false, Bool.or_false, Bool.false_or, Bool.or_true, Bool.true_or]) H locs hS hP ls (lv_sub hl [2, 0] rfl)
        · refine lv_aload_n hx hb dX4_countWaiting_34 rfl (lv_at hl 0 rfl) ?_
          refine lv_dup hx hb dX4_countWaiting_35 rfl ?_
          refine dgn E hP 6 r_2 hr_2 kcX3 6 fn_X4_160 dX4_countWaiting_36 (v := .int (ti 40 r_2)) (kk := ?_)
          refine lv_iconst (v := 1) hx hb dX4_countWaiting_39 (by decide) ?_
          refine lv_iadd hx hb dX4_countWaiting_40 ?_
          refine dpn E hS hP 6 r_2 hr_2 kcX3 6 40 fn_X4_160 hs_40 hP.di.p rfl rfl dX4_countWaiting_41 (kk := fun H locs hS hP => ?_)
          refine lv_iinc (v := (nI (i + 1))) (lv' := [(1, .int (nI (i + 1))), (2, .ref (A 6 r_2)), (0, .ref (A 0 0))]) hx hb dX4_countWaiting_44 hl (k := 2) rfl (by rw [nI_succ]; rfl) (by decide) rfl (fun ls hl => ?_)
          refine lv_goto (tgt := 2) hx hb dX4_countWaiting_47 (by decide) ?_
          exact ihLP (i + 1) (tu ti 40 r_2 ((ti 40 r_2) + 1)) (by omega) (by omega) (by simp only [dCw, dCs, ← hti, pr_2, eq_false c_1, eq_true c_3, if_true, if_false, reduceIte, true_and, and_true, false_and, and_false, true_or, or_true, false_or, or_false, not_true_eq_false, not_false_eq_true, decide_true, decide_false, Bool.true_and, Bool.and_true, Bool.false_and, Bool.and_false, Bool.not_true, Bool.not_false, Bool.or_false, Bool.false_or, Bool.or_true, Bool.true_or]) H locs hS hP ls (lv_sub hl [2, 0] rfl)
  exact LP (pr.length + 1) 0 t (Nat.zero_le _) (by omega) rfl _ _ hS hP ls (lv_sub hl [1, 0] rfl)

set_option maxHeartbeats 4000000 in
set_option maxRecDepth 100000 in
theorem c_X4_hasAimTowards (l : Launch) (g : cG) (F : Nat → Prop) (A : Nat → Nat → Nat) (nb nl nr ne : Nat) (pr : List Nat) (t : TT) (q : Nat) (x y : Int32) (hq : q < nl) : CT l yX4_hasAimTowards cX4_hasAimTowards 6 (some .boolean) 3 64 0 0 g F [.ref (A 0 0), .ref (A 5 q), .int x, .int y] (PD g F A nb nl nr ne pr t) (fun v9 H9 => v9 = some (.int (b2i (dAim t pr q x y = true))) ∧ PD g F A nb nl nr ne pr t H9) := by
  refine CT.of (by decide) rfl ?_
  intro p e s m args below meth c E hr hk hnm hP ls hl
  have hS : va_S (nF F) s.heap s.heap [] := va_S.rf
  have hx := E.1
  have hb := E.2.1
  have hE_ml := E.2.2.1
  have hown := E.2.2.2.1
  have hts := E.2.2.2.2.1
  have hG := E.2.2.2.2.2
  have hd0 := hP.di.1
  have hl : lv_has ls 6 [(0, .ref (A 0 0)), (1, .ref (A 5 q)), (2, .int x), (3, .int y)] := hl
  refine lv_iconst (v := 0) hx hb dX4_hasAimTowards_0 (by decide) ?_
  refine lv_istore (lv' := [(4, .int 0), (0, .ref (A 0 0)), (1, .ref (A 5 q)), (2, .int x), (3, .int y)]) hx hb dX4_hasAimTowards_1 hl (by decide) rfl (fun ls hl => ?_)
  have LP : ∀ (n9 i : Nat) , i ≤ pr.length → pr.length < i + n9 → (exB (fun i => (decide (t 13 (pg pr i) = 97 ∧ t 10 (pg pr i) = nI q) && decide (0 < (t 9 (pg pr i) - t 18 q) * x)) || (!decide (y = 0) && decide (t 13 (pg pr i) = 119 ∧ t 10 (pg pr i) = nI q) && decide (0 < (t 8 (pg pr i) - t 18 q) * x))) i = false) → ∀ (H : Heap) (locs : List Loc), va_S (nF F) s.heap H locs → PD g F A nb nl nr ne pr t H → ∀ (ls : Array Slot), lv_has ls 6 [(0, .ref (A 0 0)), (1, .ref (A 5 q)), (2, .int x), (3, .int y), (4, .int (nI i))] → W p l e { frames := 3, cells := 0, slots := 0, locals := 64 } s m args below meth c H locs 0 0 (MQ below (Qg F (fun v9 H9 => v9 = some (.int (b2i (dAim t pr q x y = true))) ∧ PD g F A nb nl nr ne pr t H9)) args s 0 0 (nF F)) (F0 m 3 ls []) := by
    intro n9
    induction n9 with
    | zero => intro i  hi9 hn9; exact absurd hn9 (by omega)
    | succ n9 ihLP =>
      intro i  hi_LP hn_LP hno H locs hS hP ls hl
      have hd1 := hP.di.1
      refine lv_iload hx hb dX4_hasAimTowards_3 (lv_at hl 4 rfl) ?_
      refine lv_aload_n hx hb dX4_hasAimTowards_5 rfl (lv_at hl 0 rfl) ?_
      refine dg E hP 6 fk_X4_32 dX4_hasAimTowards_6 (v := .ref (A 2 3)) (kk := ?_)
      refine d_len E hS hP 3 pr.length hl ⟨rfl, rfl⟩ ⟨Nat.le_refl _, Nat.le_refl _⟩ dX4_hasAimTowards_9 (kk := fun locs hS => ?_)
      refine lv_icmp_ge (tgt := 91) hx hb dX4_hasAimTowards_12 (by decide) (fun c_1 => ?_) (fun c_1 => ?_)
      · have n_c_1 : pr.length ≤ i := (nI_leI (by omega) (by omega)).mp c_1
        refine lv_iconst (v := 0) hx hb dX4_hasAimTowards_91 (by decide) ?_
        have e1 : (b2i (dAim t pr q x y = true)) = 0 := by exact b2i_f (by rw [dAim, show pr.length = i by omega, hno]; decide)
        exact ct_zret E hr (by decide) hk hS ⟨(by rw [e1]), hP⟩ dX4_hasAimTowards_92
      · have n_c_1 : i < pr.length := Nat.lt_of_not_le (fun h9 => c_1 (nI_le h9 (by omega)))
        refine lv_aload_n hx hb dX4_hasAimTowards_15 rfl (lv_at hl 0 rfl) ?_
        refine dg E hP 6 fk_X4_32 dX4_hasAimTowards_16 (v := .ref (A 2 3)) (kk := ?_)
        refine lv_iload hx hb dX4_hasAimTowards_19 (lv_at hl 4 rfl) ?_
        refine d_getP E hS hP i rfl (by omega) hl ⟨rfl, rfl⟩ ⟨Nat.le_refl _, Nat.le_refl _⟩ dX4_hasAimTowards_21 dX4_hasAimTowards_24 (kk := fun r_2 hr_2 ir_2 pr_2 locs hS => ?_)
        refine lv_astore (lv' := [(5, .ref (A 6 r_2)), (0, .ref (A 0 0)), (1, .ref (A 5 q)), (2, .int x), (3, .int y), (4, .int (nI i))]) hx hb dX4_hasAimTowards_27 hl (by decide) rfl (fun ls hl => ?_)
        refine lv_aload hx hb dX4_hasAimTowards_29 (lv_at hl 0 rfl) ?_
        refine lv_aload_n hx hb dX4_hasAimTowards_31 rfl (lv_at hl 2 rfl) ?_
        refine d_isIn E hS hP hr_2 hq hl ⟨rfl, rfl⟩ ⟨Nat.le_refl _, Nat.le_refl _⟩ dX4_hasAimTowards_32 (kk := fun locs hS => ?_)
        refine bz_eq (tgt := 55) hx hb dX4_hasAimTowards_35 (by decide) (fun c_3 => ?_) (fun c_3 => ?_)
        · refine lv_iload_n hx hb dX4_hasAimTowards_55 rfl (lv_at hl 4 rfl) ?_
          refine lv_if_eq (tgt := 85) hx hb dX4_hasAimTowards_56 (by decide) (fun c_4 => ?_) (fun c_4 => ?_)
          · refine lv_iinc (v := (nI (i + 1))) (lv' := [(4, .int (nI (i + 1))), (5, .ref (A 6 r_2)), (0, .ref (A 0 0)), (1, .ref (A 5 q)), (2, .int x), (3, .int y)]) hx hb dX4_hasAimTowards_85 hl (k := 5) rfl (by rw [nI_succ]; rfl) (by decide) rfl (fun ls hl => ?_)
            refine lv_goto (tgt := 3) hx hb dX4_hasAimTowards_88 (by decide) ?_
            exact ihLP (i + 1) (by omega) (by omega) (by show (exB _ i || _) = false; rw [hno]; simp only [pr_2, eq_false c_1, eq_true (Int32.not_le.mp c_1), eq_false c_3, eq_true c_4, if_true, if_false, reduceIte, true_and, and_true, false_and, and_false, true_or, or_true, false_or, or_false, not_true_eq_false, not_false_eq_true, decide_true, decide_false, Bool.true_and, Bool.and_true, Bool.false_and, Bool.and_false, Bool.not_true, Bool.not_false, Bool.or_false, Bool.false_or, Bool.or_true, Bool.true_or]) H locs hS hP ls (lv_sub hl [2, 3, 4, 5, 0] rfl)
          · refine lv_aload hx hb dX4_hasAimTowards_59 (lv_at hl 0 rfl) ?_
            refine lv_aload_n hx hb dX4_hasAimTowards_61 rfl (lv_at hl 2 rfl) ?_
            refine d_waitsFor E hS hP hr_2 hq hl ⟨rfl, rfl⟩ ⟨Nat.le_refl _, Nat.le_refl _⟩ dX4_hasAimTowards_62 (kk := fun locs hS => ?_)
            refine bz_eq (tgt := 85) hx hb dX4_hasAimTowards_65 (by decide) (fun c_5 => ?_) (fun c_5 => ?_)
            · refine lv_iinc (v := (nI (i + 1))) (lv' := [(4, .int (nI (i + 1))), (5, .ref (A 6 r_2)), (0, .ref (A 0 0)), (1, .ref (A 5 q)), (2, .int x), (3, .int y)]) hx hb dX4_hasAimTowards_85 hl (k := 5) rfl (by rw [nI_succ]; rfl) (by decide) rfl (fun ls hl => ?_)
              refine lv_goto (tgt := 3) hx hb dX4_hasAimTowards_88 (by decide) ?_
              exact ihLP (i + 1) (by omega) (by omega) (by show (exB _ i || _) = false; rw [hno]; simp only [pr_2, eq_false c_1, eq_true (Int32.not_le.mp c_1), eq_false c_3, eq_false c_4, eq_false c_5, if_true, if_false, reduceIte, true_and, and_true, false_and, and_false, true_or, or_true, false_or, or_false, not_true_eq_false, not_false_eq_true, decide_true, decide_false, Bool.true_and, Bool.and_true, Bool.false_and, Bool.and_false, Bool.not_true, Bool.not_false, Bool.or_false, Bool.false_or, Bool.or_true, Bool.true_or]) H locs hS hP ls (lv_sub hl [2, 3, 4, 5, 0] rfl)
            · refine lv_aload hx hb dX4_hasAimTowards_68 (lv_at hl 0 rfl) ?_
              refine dgn E hP 6 r_2 hr_2 kcX3 2 fn_X4_151 dX4_hasAimTowards_70 (v := .int (t 8 r_2)) (kk := ?_)
              refine lv_aload_n hx hb dX4_hasAimTowards_73 rfl (lv_at hl 2 rfl) ?_
              refine dgn E hP 5 q hq kcX2 2 fn_X4_148 dX4_hasAimTowards_74 (v := .int (t 18 q)) (kk := ?_)
              refine lv_isub hx hb dX4_hasAimTowards_77 ?_
              refine lv_iload_n hx hb dX4_hasAimTowards_78 rfl (lv_at hl 3 rfl) ?_
              refine lv_imul hx hb dX4_hasAimTowards_79 ?_
              refine lv_if_le (tgt := 85) hx hb dX4_hasAimTowards_80 (by decide) (fun c_6 => ?_) (fun c_6 => ?_)
              · refine lv_iinc (v := (nI (i + 1))) (lv' := [(4, .int (nI (i + 1))), (5, .ref (A 6 r_2)), (0, .ref (A 0 0)), (1, .ref (A 5 q)), (2, .int x), (3, .int y)]) hx hb dX4_hasAimTowards_85 hl (k := 5) rfl (by rw [nI_succ]; rfl) (by decide) rfl (fun ls hl => ?_)
                refine lv_goto (tgt := 3) hx hb dX4_hasAimTowards_88 (by decide) ?_
                exact ihLP (i + 1) (by omega) (by omega) (by show (exB _ i || _) = false; rw [hno]; simp only [pr_2, eq_false c_1, eq_true (Int32.not_le.mp c_1), eq_false c_3, eq_false c_4, eq_true c_5, eq_true c_6, eq_false (Int32.not_lt.mpr c_6), if_true, if_false, reduceIte, true_and, and_true, false_and, and_false, true_or, or_true, false_or, or_false, not_true_eq_false, not_false_eq_true, decide_true, decide_false, Bool.true_and, Bool.and_true, Bool.false_and, Bool.and_false, Bool.not_true, Bool.not_false, Bool.or_false, Bool.false_or, Bool.or_true, Bool.true_or]) H locs hS hP ls (lv_sub hl [2, 3, 4, 5, 0] rfl)
              · refine lv_iconst (v := 1) hx hb dX4_hasAimTowards_83 (by decide) ?_
                have e1 : (b2i (dAim t pr q x y = true)) = 1 := by exact b2i_t (exB_of (i := i) (by omega) (by simp only [pr_2, eq_false c_1, eq_true (Int32.not_le.mp c_1), eq_false c_3, eq_false c_4, eq_true c_5, eq_false c_6, eq_true (Int32.not_le.mp c_6), if_true, if_false, reduceIte, true_and, and_true, false_and, and_false, true_or, or_true, false_or, or_false, not_true_eq_false, not_false_eq_true, decide_true, decide_false, Bool.true_and, Bool.and_true, Bool.false_and, Bool.and_false, Bool.not_true, Bool.not_false, Bool.or_false, Bool.false_or, Bool.or_true, Bool.true_or]))
                exact ct_zret E hr (by decide) hk hS ⟨(by rw [e1]), hP⟩ dX4_hasAimTowards_84
        · refine lv_aload hx hb dX4_hasAimTowards_38 (lv_at hl 0 rfl) ?_
          refine dgn E hP 6 r_2 hr_2 kcX3 3 fn_X4_152 dX4_hasAimTowards_40 (v := .int (t 9 r_2)) (kk := ?_)
          refine lv_aload_n hx hb dX4_hasAimTowards_43 rfl (lv_at hl 2 rfl) ?_
          refine dgn E hP 5 q hq kcX2 2 fn_X4_148 dX4_hasAimTowards_44 (v := .int (t 18 q)) (kk := ?_)
          refine lv_isub hx hb dX4_hasAimTowards_47 ?_
          refine lv_iload_n hx hb dX4_hasAimTowards_48 rfl (lv_at hl 3 rfl) ?_
          refine lv_imul hx hb dX4_hasAimTowards_49 ?_
          refine lv_if_le (tgt := 55) hx hb dX4_hasAimTowards_50 (by decide) (fun c_7 => ?_) (fun c_7 => ?_)
          · refine lv_iload_n hx hb dX4_hasAimTowards_55 rfl (lv_at hl 4 rfl) ?_
            refine lv_if_eq (tgt := 85) hx hb dX4_hasAimTowards_56 (by decide) (fun c_8 => ?_) (fun c_8 => ?_)
            · refine lv_iinc (v := (nI (i + 1))) (lv' := [(4, .int (nI (i + 1))), (5, .ref (A 6 r_2)), (0, .ref (A 0 0)), (1, .ref (A 5 q)), (2, .int x), (3, .int y)]) hx hb dX4_hasAimTowards_85 hl (k := 5) rfl (by rw [nI_succ]; rfl) (by decide) rfl (fun ls hl => ?_)
              refine lv_goto (tgt := 3) hx hb dX4_hasAimTowards_88 (by decide) ?_
              exact ihLP (i + 1) (by omega) (by omega) (by show (exB _ i || _) = false; rw [hno]; simp only [pr_2, eq_false c_1, eq_true (Int32.not_le.mp c_1), eq_true c_3, eq_true c_7, eq_false (Int32.not_lt.mpr c_7), eq_true c_8, if_true, if_false, reduceIte, true_and, and_true, false_and, and_false, true_or, or_true, false_or, or_false, not_true_eq_false, not_false_eq_true, decide_true, decide_false, Bool.true_and, Bool.and_true, Bool.false_and, Bool.and_false, Bool.not_true, Bool.not_false, Bool.or_false, Bool.false_or, Bool.or_true, Bool.true_or]) H locs hS hP ls (lv_sub hl [2, 3, 4, 5, 0] rfl)
            · refine lv_aload hx hb dX4_hasAimTowards_59 (lv_at hl 0 rfl) ?_
              refine lv_aload_n hx hb dX4_hasAimTowards_61 rfl (lv_at hl 2 rfl) ?_
              refine d_waitsFor E hS hP hr_2 hq hl ⟨rfl, rfl⟩ ⟨Nat.le_refl _, Nat.le_refl _⟩ dX4_hasAimTowards_62 (kk := fun locs hS => ?_)
              refine bz_eq (tgt := 85) hx hb dX4_hasAimTowards_65 (by decide) (fun c_9 => ?_) (fun c_9 => ?_)
              · refine lv_iinc (v := (nI (i + 1))) (lv' := [(4, .int (nI (i + 1))), (5, .ref (A 6 r_2)), (0, .ref (A 0 0)), (1, .ref (A 5 q)), (2, .int x), (3, .int y)]) hx hb dX4_hasAimTowards_85 hl (k := 5) rfl (by rw [nI_succ]; rfl) (by decide) rfl (fun ls hl => ?_)
                refine lv_goto (tgt := 3) hx hb dX4_hasAimTowards_88 (by decide) ?_
                exact ihLP (i + 1) (by omega) (by omega) (by show (exB _ i || _) = false; rw [hno]; simp only [pr_2, eq_false c_1, eq_true (Int32.not_le.mp c_1), eq_true c_3, eq_true c_7, eq_false (Int32.not_lt.mpr c_7), eq_false c_8, eq_false c_9, if_true, if_false, reduceIte, true_and, and_true, false_and, and_false, true_or, or_true, false_or, or_false, not_true_eq_false, not_false_eq_true, decide_true, decide_false, Bool.true_and, Bool.and_true, Bool.false_and, Bool.and_false, Bool.not_true, Bool.not_false, Bool.or_false, Bool.false_or, Bool.or_true, Bool.true_or]) H locs hS hP ls (lv_sub hl [2, 3, 4, 5, 0] rfl)
              · refine lv_aload hx hb dX4_hasAimTowards_68 (lv_at hl 0 rfl) ?_
                refine dgn E hP 6 r_2 hr_2 kcX3 2 fn_X4_151 dX4_hasAimTowards_70 (v := .int (t 8 r_2)) (kk := ?_)
                refine lv_aload_n hx hb dX4_hasAimTowards_73 rfl (lv_at hl 2 rfl) ?_
                refine dgn E hP 5 q hq kcX2 2 fn_X4_148 dX4_hasAimTowards_74 (v := .int (t 18 q)) (kk := ?_)
                refine lv_isub hx hb dX4_hasAimTowards_77 ?_
                refine lv_iload_n hx hb dX4_hasAimTowards_78 rfl (lv_at hl 3 rfl) ?_
                refine lv_imul hx hb dX4_hasAimTowards_79 ?_
                refine lv_if_le (tgt := 85) hx hb dX4_hasAimTowards_80 (by decide) (fun c_10 => ?_) (fun c_10 => ?_)
                · refine lv_iinc (v := (nI (i + 1))) (lv' := [(4, .int (nI (i + 1))), (5, .ref (A 6 r_2)), (0, .ref (A 0 0)), (1, .ref (A 5 q)), (2, .int x), (3, .int y)]) hx hb dX4_hasAimTowards_85 hl (k := 5) rfl (by rw [nI_succ]; rfl) (by decide) rfl (fun ls hl => ?_)
                  refine lv_goto (tgt := 3) hx hb dX4_hasAimTowards_88 (by decide) ?_
                  exact ihLP (i + 1) (by omega) (by omega) (by show (exB _ i || _) = false; rw [hno]; simp only [pr_2, eq_false c_1, eq_true (Int32.not_le.mp c_1), eq_true c_3, eq_true c_7, eq_false (Int32.not_lt.mpr c_7), eq_false c_8, eq_true c_9, eq_true c_10, eq_false (Int32.not_lt.mpr c_10), if_true, if_false, reduceIte, true_and, and_true, false_and, and_false, true_or, or_true, false_or, or_false, not_true_eq_false, not_false_eq_true, decide_true, decide_false, Bool.true_and, Bool.and_true, Bool.false_and, Bool.and_false, Bool.not_true, Bool.not_false, Bool.or_false, Bool.false_or, Bool.or_true, Bool.true_or]) H locs hS hP ls (lv_sub hl [2, 3, 4, 5, 0] rfl)
                · refine lv_iconst (v := 1) hx hb dX4_hasAimTowards_83 (by decide) ?_
                  have e1 : (b2i (dAim t pr q x y = true)) = 1 := by exact b2i_t (exB_of (i := i) (by omega) (by simp only [pr_2, eq_false c_1, eq_true (Int32.not_le.mp c_1), eq_true c_3, eq_true c_7, eq_false (Int32.not_lt.mpr c_7), eq_false c_8, eq_true c_9, eq_false c_10, eq_true (Int32.not_le.mp c_10), if_true, if_false, reduceIte, true_and, and_true, false_and, and_false, true_or, or_true, false_or, or_false, not_true_eq_false, not_false_eq_true, decide_true, decide_false, Bool.true_and, Bool.and_true, Bool.false_and, Bool.and_false, Bool.not_true, Bool.not_false, Bool.or_false, Bool.false_or, Bool.or_true, Bool.true_or]))
                  exact ct_zret E hr (by decide) hk hS ⟨(by rw [e1]), hP⟩ dX4_hasAimTowards_84
          · refine lv_iconst (v := 1) hx hb dX4_hasAimTowards_53 (by decide) ?_
            have e1 : (b2i (dAim t pr q x y = true)) = 1 := by exact b2i_t (exB_of (i := i) (by omega) (by simp only [pr_2, eq_false c_1, eq_true (Int32.not_le.mp c_1), eq_true c_3, eq_false c_7, eq_true (Int32.not_le.mp c_7), if_true, if_false, reduceIte, true_and, and_true, false_and, and_false, true_or, or_true, false_or, or_false, not_true_eq_false, not_false_eq_true, decide_true, decide_false, Bool.true_and, Bool.and_true, Bool.false_and, Bool.and_false, Bool.not_true, Bool.not_false, Bool.or_false, Bool.false_or, Bool.or_true, Bool.true_or]))
            exact ct_zret E hr (by decide) hk hS ⟨(by rw [e1]), hP⟩ dX4_hasAimTowards_54
  exact LP (pr.length + 1) 0 (Nat.zero_le _) (by omega) rfl _ _ hS hP ls (lv_sub hl [1, 2, 3, 4, 0] rfl)

set_option maxHeartbeats 4000000 in
set_option maxRecDepth 100000 in
theorem c_X4_move (l : Launch) (g : cG) (F : Nat → Prop) (A : Nat → Nat → Nat) (nb nl nr ne : Nat) (pr : List Nat) (t : TT) (q : Nat) (hq : q < nl) : CT l yX4_move cX4_move 4 none 5 108 0 0 g F [.ref (A 0 0), .ref (A 5 q)] (PD g F A nb nl nr ne pr t) (fun v9 H9 => v9 = none ∧ PD g F A nb nl nr ne pr (dMove t pr q) H9) := by
  refine CT.of (by decide) rfl ?_
  intro p e s m args below meth c E hr hk hnm hP ls hl
  have hS : va_S (nF F) s.heap s.heap [] := va_S.rf
  have hx := E.1
  have hb := E.2.1
  have hE_ml := E.2.2.1
  have hown := E.2.2.2.1
  have hts := E.2.2.2.2.1
  have hG := E.2.2.2.2.2
  have hd0 := hP.di.1
  have hl : lv_has ls 4 [(0, .ref (A 0 0)), (1, .ref (A 5 q))] := hl
  refine lv_aload_n hx hb dX4_move_0 rfl (lv_at hl 1 rfl) ?_
  refine dgn E hP 5 q hq kcX2 3 fn_X4_180 dX4_move_1 (v := .int (t 21 q)) (kk := ?_)
  refine lv_if_eq (tgt := 11) hx hb dX4_move_4 (by decide) (fun c_1 => ?_) (fun c_1 => ?_)
  · refine lv_iconst (v := (-1)) hx hb dX4_move_11 (by decide) ?_
    refine lv_istore_n (lv' := [(2, .int (-1)), (0, .ref (A 0 0)), (1, .ref (A 5 q))]) hx hb dX4_move_12 rfl hl (by decide) rfl (fun ls hl => ?_)
    refine lv_aload_n hx hb dX4_move_13 rfl (lv_at hl 1 rfl) ?_
    refine lv_aload_n hx hb dX4_move_14 rfl (lv_at hl 2 rfl) ?_
    refine ct_V E hS (c_X4_hasRoom l g F A nb nl nr ne pr t q hq) ok_X4_hasRoom lk_X4_291 hP (hP.recv hG) rfl hl ⟨rfl, rfl⟩ rfl ⟨Nat.le_refl _, Nat.le_refl _⟩ dX4_move_15 rfl (fun v9 H locs hv9 hS hz9 => ?_)
    obtain ⟨rfl, hP⟩ := hv9
    refine lv_istore_n (lv' := [(3, .int (b2i (dRoom t pr q))), (2, .int (-1)), (0, .ref (A 0 0)), (1, .ref (A 5 q))]) hx hb dX4_move_18 rfl hl (by decide) rfl (fun ls hl => ?_)
    refine lv_aload_n hx hb dX4_move_19 rfl (lv_at hl 2 rfl) ?_
    refine lv_aload_n hx hb dX4_move_20 rfl (lv_at hl 3 rfl) ?_
    refine lv_iload_n hx hb dX4_move_21 rfl (lv_at hl 1 rfl) ?_
    refine lv_iload_n hx hb dX4_move_22 rfl (lv_at hl 0 rfl) ?_
    refine ct_V E hS (c_X4_hasAimTowards l g F A nb nl nr ne pr t q (-1) (b2i (dRoom t pr q)) hq) ok_X4_hasAimTowards lk_X4_297 hP (hP.recv hG) rfl hl ⟨rfl, rfl⟩ rfl ⟨Nat.le_refl _, Nat.le_refl _⟩ dX4_move_23 rfl (fun v9 H locs hv9 hS hz9 => ?_)
    obtain ⟨rfl, hP⟩ := hv9
    refine bz_eq (tgt := 42) hx hb dX4_move_26 (by decide) (fun c_2 => ?_) (fun c_2 => ?_)
    · refine lv_aload_n hx hb dX4_move_42 rfl (lv_at hl 2 rfl) ?_
      refine lv_aload_n hx hb dX4_move_43 rfl (lv_at hl 3 rfl) ?_
      refine lv_iload_n hx hb dX4_move_44 rfl (lv_at hl 1 rfl) ?_
      refine lv_ineg hx hb dX4_move_45 ?_
      refine lv_iload_n hx hb dX4_move_46 rfl (lv_at hl 0 rfl) ?_
      refine ct_V E hS (c_X4_hasAimTowards l g F A nb nl nr ne pr t q (-(-1)) (b2i (dRoom t pr q)) hq) ok_X4_hasAimTowards lk_X4_297 hP (hP.recv hG) rfl hl ⟨rfl, rfl⟩ rfl ⟨Nat.le_refl _, Nat.le_refl _⟩ dX4_move_47 rfl (fun v9 H locs hv9 hS hz9 => ?_)
      obtain ⟨rfl, hP⟩ := hv9
      refine bz_eq (tgt := 82) hx hb dX4_move_50 (by decide) (fun c_3 => ?_) (fun c_3 => ?_)
      · refine lv_aload_n hx hb dX4_move_82 rfl (lv_at hl 3 rfl) ?_
        refine dgn E hP 5 q hq kcX2 4 fn_X4_171 dX4_move_83 (v := .int (t 20 q)) (kk := ?_)
        refine lv_bipush (v := 111) hx hb dX4_move_86 (by decide) ?_
        refine lv_icmp_ne (tgt := 103) hx hb dX4_move_88 (by decide) (fun c_4 => ?_) (fun c_4 => ?_)
        · have e2 : (dMove t pr q) = t := by simp only [dMove, dStep, eq_true c_1, eq_false c_2, eq_false c_3, eq_false c_4, if_true, if_false, reduceIte, true_and, and_true, false_and, and_false, true_or, or_true, false_or, or_false, not_true_eq_false, not_false_eq_true, decide_true, decide_false, Bool.true_and, Bool.and_true, Bool.false_and, Bool.and_false, Bool.not_true, Bool.not_false, Bool.or_false, Bool.false_or, Bool.or_true, Bool.true_or]
          exact ct_vret E hr hk hS ⟨rfl, (by rw [e2]; exact hP)⟩ dX4_move_103
        · refine lv_aload_n hx hb dX4_move_91 rfl (lv_at hl 3 rfl) ?_
          refine lv_bipush (v := 99) hx hb dX4_move_92 (by decide) ?_
          refine dpn E hS hP 5 q hq kcX2 4 20 fn_X4_171 hs_20 (hP.di.p20 (by decide)) (by decide) (fit_c (by decide)) dX4_move_94 (kk := fun H locs hS hP => ?_)
          refine lv_aload_n hx hb dX4_move_97 rfl (lv_at hl 3 rfl) ?_
          refine lv_bipush (v := 20) hx hb dX4_move_98 (by decide) ?_
          refine dpn E hS hP 5 q hq kcX2 5 19 fn_X4_301 hs_19 hP.di.p rfl rfl dX4_move_100 (kk := fun H locs hS hP => ?_)
          have e2 : (dMove t pr q) = (tu (tu t 20 q 99) 19 q 20) := by simp only [dMove, dStep, eq_true c_1, eq_false c_2, eq_false c_3, eq_true c_4, if_true, if_false, reduceIte, true_and, and_true, false_and, and_false, true_or, or_true, false_or, or_false, not_true_eq_false, not_false_eq_true, decide_true, decide_false, Bool.true_and, Bool.and_true, Bool.false_and, Bool.and_false, Bool.not_true, Bool.not_false, Bool.or_false, Bool.false_or, Bool.or_true, Bool.true_or]
          exact ct_vret E hr hk hS ⟨rfl, (by rw [e2]; exact hP)⟩ dX4_move_103
      · refine lv_aload_n hx hb dX4_move_53 rfl (lv_at hl 3 rfl) ?_
        refine lv_aload_n hx hb dX4_move_54 rfl (lv_at hl 3 rfl) ?_
        refine dgn E hP 5 q hq kcX2 3 fn_X4_180 dX4_move_55 (v := .int (t 21 q)) (kk := ?_)
        refine lv_if_ne (tgt := 65) hx hb dX4_move_58 (by decide) (fun c_5 => ?_) (fun c_5 => ?_)
        · exact absurd c_1 c_5
        · refine lv_iconst (v := 1) hx hb dX4_move_61 (by decide) ?_
          refine lv_goto (tgt := 66) hx hb dX4_move_62 (by decide) ?_
          refine dpn E hS hP 5 q hq kcX2 3 21 fn_X4_180 hs_21 (hP.di.p21 (by decide)) (by decide) (fit_z (by decide)) dX4_move_66 (kk := fun H locs hS hP => ?_)
          refine lv_aload_n hx hb dX4_move_69 rfl (lv_at hl 3 rfl) ?_
          refine lv_dup hx hb dX4_move_70 rfl ?_
          refine dgn E hP 5 q hq kcX2 2 fn_X4_148 dX4_move_71 (v := .int (t 18 q)) (hv := congrArg (fun z => some (Value.int z)) (by simp [tu])) (kk := ?_)
          refine lv_iload_n hx hb dX4_move_74 rfl (lv_at hl 1 rfl) ?_
          refine lv_isub hx hb dX4_move_75 ?_
          refine dpn E hS hP 5 q hq kcX2 2 18 fn_X4_148 hs_18 hP.di.p rfl rfl dX4_move_76 (kk := fun H locs hS hP => ?_)
          refine lv_goto (tgt := 103) hx hb dX4_move_79 (by decide) ?_
          have e2 : (dMove t pr q) = (tu (tu t 21 q 1) 18 q ((t 18 q) - (-1))) := by simp only [dMove, dStep, eq_true c_1, eq_false c_2, eq_true c_3, eq_true c_5, if_true, if_false, reduceIte, true_and, and_true, false_and, and_false, true_or, or_true, false_or, or_false, not_true_eq_false, not_false_eq_true, decide_true, decide_false, Bool.true_and, Bool.and_true, Bool.false_and, Bool.and_false, Bool.not_true, Bool.not_false, Bool.or_false, Bool.false_or, Bool.or_true, Bool.true_or]
          exact ct_vret E hr hk hS ⟨rfl, (by rw [e2]; exact hP)⟩ dX4_move_103
    · refine lv_aload_n hx hb dX4_move_29 rfl (lv_at hl 3 rfl) ?_
      refine lv_dup hx hb dX4_move_30 rfl ?_
      refine dgn E hP 5 q hq kcX2 2 fn_X4_148 dX4_move_31 (v := .int (t 18 q)) (kk := ?_)
      refine lv_iload_n hx hb dX4_move_34 rfl (lv_at hl 1 rfl) ?_
      refine lv_iadd hx hb dX4_move_35 ?_
      refine dpn E hS hP 5 q hq kcX2 2 18 fn_X4_148 hs_18 hP.di.p rfl rfl dX4_move_36 (kk := fun H locs hS hP => ?_)
      refine lv_goto (tgt := 103) hx hb dX4_move_39 (by decide) ?_
      have e2 : (dMove t pr q) = (tu t 18 q ((t 18 q) + (-1))) := by simp only [dMove, dStep, eq_true c_1, eq_true c_2, if_true, if_false, reduceIte, true_and, and_true, false_and, and_false, true_or, or_true, false_or, or_false, not_true_eq_false, not_false_eq_true, decide_true, decide_false, Bool.true_and, Bool.and_true, Bool.false_and, Bool.and_false, Bool.not_true, Bool.not_false, Bool.or_false, Bool.false_or, Bool.or_true, Bool.true_or]
      exact ct_vret E hr hk hS ⟨rfl, (by rw [e2]; exact hP)⟩ dX4_move_103
  · refine lv_iconst (v := 1) hx hb dX4_move_7 (by decide) ?_
    refine lv_goto (tgt := 12) hx hb dX4_move_8 (by decide) ?_
    refine lv_istore_n (lv' := [(2, .int 1), (0, .ref (A 0 0)), (1, .ref (A 5 q))]) hx hb dX4_move_12 rfl hl (by decide) rfl (fun ls hl => ?_)
    refine lv_aload_n hx hb dX4_move_13 rfl (lv_at hl 1 rfl) ?_
    refine lv_aload_n hx hb dX4_move_14 rfl (lv_at hl 2 rfl) ?_
    refine ct_V E hS (c_X4_hasRoom l g F A nb nl nr ne pr t q hq) ok_X4_hasRoom lk_X4_291 hP (hP.recv hG) rfl hl ⟨rfl, rfl⟩ rfl ⟨Nat.le_refl _, Nat.le_refl _⟩ dX4_move_15 rfl (fun v9 H locs hv9 hS hz9 => ?_)
    obtain ⟨rfl, hP⟩ := hv9
    refine lv_istore_n (lv' := [(3, .int (b2i (dRoom t pr q))), (2, .int 1), (0, .ref (A 0 0)), (1, .ref (A 5 q))]) hx hb dX4_move_18 rfl hl (by decide) rfl (fun ls hl => ?_)
    refine lv_aload_n hx hb dX4_move_19 rfl (lv_at hl 2 rfl) ?_
    refine lv_aload_n hx hb dX4_move_20 rfl (lv_at hl 3 rfl) ?_
    refine lv_iload_n hx hb dX4_move_21 rfl (lv_at hl 1 rfl) ?_
    refine lv_iload_n hx hb dX4_move_22 rfl (lv_at hl 0 rfl) ?_
    refine ct_V E hS (c_X4_hasAimTowards l g F A nb nl nr ne pr t q 1 (b2i (dRoom t pr q)) hq) ok_X4_hasAimTowards lk_X4_297 hP (hP.recv hG) rfl hl ⟨rfl, rfl⟩ rfl ⟨Nat.le_refl _, Nat.le_refl _⟩ dX4_move_23 rfl (fun v9 H locs hv9 hS hz9 => ?_)
    obtain ⟨rfl, hP⟩ := hv9
    refine bz_eq (tgt := 42) hx hb dX4_move_26 (by decide) (fun c_6 => ?_) (fun c_6 => ?_)
    · refine lv_aload_n hx hb dX4_move_42 rfl (lv_at hl 2 rfl) ?_
      refine lv_aload_n hx hb dX4_move_43 rfl (lv_at hl 3 rfl) ?_
      refine lv_iload_n hx hb dX4_move_44 rfl (lv_at hl 1 rfl) ?_
      refine lv_ineg hx hb dX4_move_45 ?_
      refine lv_iload_n hx hb dX4_move_46 rfl (lv_at hl 0 rfl) ?_
      refine ct_V E hS (c_X4_hasAimTowards l g F A nb nl nr ne pr t q (-1) (b2i (dRoom t pr q)) hq) ok_X4_hasAimTowards lk_X4_297 hP (hP.recv hG) rfl hl ⟨rfl, rfl⟩ rfl ⟨Nat.le_refl _, Nat.le_refl _⟩ dX4_move_47 rfl (fun v9 H locs hv9 hS hz9 => ?_)
      obtain ⟨rfl, hP⟩ := hv9
      refine bz_eq (tgt := 82) hx hb dX4_move_50 (by decide) (fun c_7 => ?_) (fun c_7 => ?_)
      · refine lv_aload_n hx hb dX4_move_82 rfl (lv_at hl 3 rfl) ?_
        refine dgn E hP 5 q hq kcX2 4 fn_X4_171 dX4_move_83 (v := .int (t 20 q)) (kk := ?_)
        refine lv_bipush (v := 111) hx hb dX4_move_86 (by decide) ?_
        refine lv_icmp_ne (tgt := 103) hx hb dX4_move_88 (by decide) (fun c_8 => ?_) (fun c_8 => ?_)
        · have e2 : (dMove t pr q) = t := by simp only [dMove, dStep, eq_false c_1, eq_false c_6, eq_false c_7, eq_false c_8, if_true, if_false, reduceIte, true_and, and_true, false_and, and_false, true_or, or_true, false_or, or_false, not_true_eq_false, not_false_eq_true, decide_true, decide_false, Bool.true_and, Bool.and_true, Bool.false_and, Bool.and_false, Bool.not_true, Bool.not_false, Bool.or_false, Bool.false_or, Bool.or_true, Bool.true_or]
          exact ct_vret E hr hk hS ⟨rfl, (by rw [e2]; exact hP)⟩ dX4_move_103
        · refine lv_aload_n hx hb dX4_move_91 rfl (lv_at hl 3 rfl) ?_
          refine lv_bipush (v := 99) hx hb dX4_move_92 (by decide) ?_
          refine dpn E hS hP 5 q hq kcX2 4 20 fn_X4_171 hs_20 (hP.di.p20 (by decide)) (by decide) (fit_c (by decide)) dX4_move_94 (kk := fun H locs hS hP => ?_)
          refine lv_aload_n hx hb dX4_move_97 rfl (lv_at hl 3 rfl) ?_
          refine lv_bipush (v := 20) hx hb dX4_move_98 (by decide) ?_
          refine dpn E hS hP 5 q hq kcX2 5 19 fn_X4_301 hs_19 hP.di.p rfl rfl dX4_move_100 (kk := fun H locs hS hP => ?_)
          have e2 : (dMove t pr q) = (tu (tu t 20 q 99) 19 q 20) := by simp only [dMove, dStep, eq_false c_1, eq_false c_6, eq_false c_7, eq_true c_8, if_true, if_false, reduceIte, true_and, and_true, false_and, and_false, true_or, or_true, false_or, or_false, not_true_eq_false, not_false_eq_true, decide_true, decide_false, Bool.true_and, Bool.and_true, Bool.false_and, Bool.and_false, Bool.not_true, Bool.not_false, Bool.or_false, Bool.false_or, Bool.or_true, Bool.true_or]
          exact ct_vret E hr hk hS ⟨rfl, (by rw [e2]; exact hP)⟩ dX4_move_103
      · refine lv_aload_n hx hb dX4_move_53 rfl (lv_at hl 3 rfl) ?_
        refine lv_aload_n hx hb dX4_move_54 rfl (lv_at hl 3 rfl) ?_
        refine dgn E hP 5 q hq kcX2 3 fn_X4_180 dX4_move_55 (v := .int (t 21 q)) (kk := ?_)
        refine lv_if_ne (tgt := 65) hx hb dX4_move_58 (by decide) (fun c_9 => ?_) (fun c_9 => ?_)
        · refine lv_iconst (v := 0) hx hb dX4_move_65 (by decide) ?_
          refine dpn E hS hP 5 q hq kcX2 3 21 fn_X4_180 hs_21 (hP.di.p21 (by decide)) (by decide) (fit_z (by decide)) dX4_move_66 (kk := fun H locs hS hP => ?_)
          refine lv_aload_n hx hb dX4_move_69 rfl (lv_at hl 3 rfl) ?_
          refine lv_dup hx hb dX4_move_70 rfl ?_
          refine dgn E hP 5 q hq kcX2 2 fn_X4_148 dX4_move_71 (v := .int (t 18 q)) (hv := congrArg (fun z => some (Value.int z)) (by simp [tu])) (kk := ?_)
          refine lv_iload_n hx hb dX4_move_74 rfl (lv_at hl 1 rfl) ?_
          refine lv_isub hx hb dX4_move_75 ?_
          refine dpn E hS hP 5 q hq kcX2 2 18 fn_X4_148 hs_18 hP.di.p rfl rfl dX4_move_76 (kk := fun H locs hS hP => ?_)
          refine lv_goto (tgt := 103) hx hb dX4_move_79 (by decide) ?_
          have e2 : (dMove t pr q) = (tu (tu t 21 q 0) 18 q ((t 18 q) - 1)) := by simp only [dMove, dStep, eq_false c_1, eq_false c_6, eq_true c_7, eq_false c_9, if_true, if_false, reduceIte, true_and, and_true, false_and, and_false, true_or, or_true, false_or, or_false, not_true_eq_false, not_false_eq_true, decide_true, decide_false, Bool.true_and, Bool.and_true, Bool.false_and, Bool.and_false, Bool.not_true, Bool.not_false, Bool.or_false, Bool.false_or, Bool.or_true, Bool.true_or]
          exact ct_vret E hr hk hS ⟨rfl, (by rw [e2]; exact hP)⟩ dX4_move_103
        · exact absurd c_9 c_1
    · refine lv_aload_n hx hb dX4_move_29 rfl (lv_at hl 3 rfl) ?_
      refine lv_dup hx hb dX4_move_30 rfl ?_
      refine dgn E hP 5 q hq kcX2 2 fn_X4_148 dX4_move_31 (v := .int (t 18 q)) (kk := ?_)
      refine lv_iload_n hx hb dX4_move_34 rfl (lv_at hl 1 rfl) ?_
      refine lv_iadd hx hb dX4_move_35 ?_
      refine dpn E hS hP 5 q hq kcX2 2 18 fn_X4_148 hs_18 hP.di.p rfl rfl dX4_move_36 (kk := fun H locs hS hP => ?_)
      refine lv_goto (tgt := 103) hx hb dX4_move_39 (by decide) ?_
      have e2 : (dMove t pr q) = (tu t 18 q ((t 18 q) + 1)) := by simp only [dMove, dStep, eq_false c_1, eq_true c_6, if_true, if_false, reduceIte, true_and, and_true, false_and, and_false, true_or, or_true, false_or, or_false, not_true_eq_false, not_false_eq_true, decide_true, decide_false, Bool.true_and, Bool.and_true, Bool.false_and, Bool.and_false, Bool.not_true, Bool.not_false, Bool.or_false, Bool.false_or, Bool.or_true, Bool.true_or]
      exact ct_vret E hr hk hS ⟨rfl, (by rw [e2]; exact hP)⟩ dX4_move_103
end
