section
-- ===== PART A: goes FIRST, ahead of the names: the tables' words, and 'selects' of the private methods out of them =====
/-- a private method of a class that the tables say can be made, by its rows of tables_1 -/
def lw_okq (q : MethodName × Nat) : Prop := (q.1.cls ≠ "java/lang/invoke/MethodHandle" ∧ q.1.cls ≠ "java/lang/invoke/VarHandle") ∧ Cond.instantiable q.1.cls q.2 ∈ tables_1 ∧ Cond.privateMethod q.1 ∈ tables_1 ∧ Cond.instanceMethod q.1 ∈ tables_1
theorem lw_p0 : lw_okq (⟨"KeptVolunteers", "isTrick", "(I)Z"⟩, 11) := ⟨⟨by decide +kernel, by decide +kernel⟩, List.mem_of_getElem? (i := 23) (by decide +kernel), List.mem_of_getElem? (i := 449) (by decide +kernel), List.mem_of_getElem? (i := 450) (by decide +kernel)⟩
theorem lw_p1 : lw_okq (⟨"KeptVolunteers", "isDoneNow", "(I)Z"⟩, 11) := ⟨⟨by decide +kernel, by decide +kernel⟩, List.mem_of_getElem? (i := 23) (by decide +kernel), List.mem_of_getElem? (i := 481) (by decide +kernel), List.mem_of_getElem? (i := 482) (by decide +kernel)⟩
theorem lw_p2 : lw_okq (⟨"KeptVolunteers", "isNumber", "(I)Z"⟩, 11) := ⟨⟨by decide +kernel, by decide +kernel⟩, List.mem_of_getElem? (i := 23) (by decide +kernel), List.mem_of_getElem? (i := 568) (by decide +kernel), List.mem_of_getElem? (i := 569) (by decide +kernel)⟩
theorem lw_p3 : lw_okq (⟨"KeptVolunteers", "mayBeCast", "(II)Z"⟩, 11) := ⟨⟨by decide +kernel, by decide +kernel⟩, List.mem_of_getElem? (i := 23) (by decide +kernel), List.mem_of_getElem? (i := 604) (by decide +kernel), List.mem_of_getElem? (i := 605) (by decide +kernel)⟩
theorem lw_p4 : lw_okq (⟨"KeptVolunteers", "hasShow", "()Z"⟩, 11) := ⟨⟨by decide +kernel, by decide +kernel⟩, List.mem_of_getElem? (i := 23) (by decide +kernel), List.mem_of_getElem? (i := 621) (by decide +kernel), List.mem_of_getElem? (i := 622) (by decide +kernel)⟩
theorem lw_p5 : lw_okq (⟨"KeptVolunteers", "planMost", "()I"⟩, 11) := ⟨⟨by decide +kernel, by decide +kernel⟩, List.mem_of_getElem? (i := 23) (by decide +kernel), List.mem_of_getElem? (i := 625) (by decide +kernel), List.mem_of_getElem? (i := 626) (by decide +kernel)⟩
theorem lw_p6 : lw_okq (⟨"KeptVolunteers$Planner", "choose", "(II)V"⟩, 8) := ⟨⟨by decide +kernel, by decide +kernel⟩, List.mem_of_getElem? (i := 110) (by decide +kernel), List.mem_of_getElem? (i := 641) (by decide +kernel), List.mem_of_getElem? (i := 642) (by decide +kernel)⟩
theorem lw_p7 : lw_okq (⟨"KeptVolunteers$Planner", "stillOpen", "(I)I"⟩, 8) := ⟨⟨by decide +kernel, by decide +kernel⟩, List.mem_of_getElem? (i := 110) (by decide +kernel), List.mem_of_getElem? (i := 645) (by decide +kernel), List.mem_of_getElem? (i := 646) (by decide +kernel)⟩
theorem lw_p8 : lw_okq (⟨"KeptVolunteers$Planner", "openWays", "(II)I"⟩, 8) := ⟨⟨by decide +kernel, by decide +kernel⟩, List.mem_of_getElem? (i := 110) (by decide +kernel), List.mem_of_getElem? (i := 649) (by decide +kernel), List.mem_of_getElem? (i := 650) (by decide +kernel)⟩
theorem lw_p9 : lw_okq (⟨"KeptVolunteers$Planner", "hindersLater", "(I)Z"⟩, 8) := ⟨⟨by decide +kernel, by decide +kernel⟩, List.mem_of_getElem? (i := 110) (by decide +kernel), List.mem_of_getElem? (i := 657) (by decide +kernel), List.mem_of_getElem? (i := 658) (by decide +kernel)⟩
theorem lw_p10 : lw_okq (⟨"KeptVolunteers$Tour", "drawStrong", "()I"⟩, 6) := ⟨⟨by decide +kernel, by decide +kernel⟩, List.mem_of_getElem? (i := 142) (by decide +kernel), List.mem_of_getElem? (i := 777) (by decide +kernel), List.mem_of_getElem? (i := 778) (by decide +kernel)⟩
theorem lw_p11 : lw_okq (⟨"KeptVolunteers$Tour", "callUp", "(I)V"⟩, 6) := ⟨⟨by decide +kernel, by decide +kernel⟩, List.mem_of_getElem? (i := 142) (by decide +kernel), List.mem_of_getElem? (i := 785) (by decide +kernel), List.mem_of_getElem? (i := 786) (by decide +kernel)⟩
theorem lw_p12 : lw_okq (⟨"KeptVolunteers$Tour", "play", "(LKeptVolunteers$Bill;)I"⟩, 6) := ⟨⟨by decide +kernel, by decide +kernel⟩, List.mem_of_getElem? (i := 142) (by decide +kernel), List.mem_of_getElem? (i := 789) (by decide +kernel), List.mem_of_getElem? (i := 790) (by decide +kernel)⟩
theorem lw_p13 : lw_okq (⟨"KeptVolunteers$Tour", "busyFor", "(II)I"⟩, 6) := ⟨⟨by decide +kernel, by decide +kernel⟩, List.mem_of_getElem? (i := 142) (by decide +kernel), List.mem_of_getElem? (i := 795) (by decide +kernel), List.mem_of_getElem? (i := 796) (by decide +kernel)⟩
theorem lw_p14 : lw_okq (⟨"KeptVolunteers$Tour", "take", "(LKeptVolunteers$Trick;I)I"⟩, 6) := ⟨⟨by decide +kernel, by decide +kernel⟩, List.mem_of_getElem? (i := 142) (by decide +kernel), List.mem_of_getElem? (i := 800) (by decide +kernel), List.mem_of_getElem? (i := 801) (by decide +kernel)⟩
theorem lw_p15 : lw_okq (⟨"KeptVolunteers$Tour", "sendHome", "(I)V"⟩, 6) := ⟨⟨by decide +kernel, by decide +kernel⟩, List.mem_of_getElem? (i := 142) (by decide +kernel), List.mem_of_getElem? (i := 807) (by decide +kernel), List.mem_of_getElem? (i := 808) (by decide +kernel)⟩
def lw_privs_1 : List (MethodName × Nat) := [(⟨"KeptVolunteers", "isTrick", "(I)Z"⟩, 11), (⟨"KeptVolunteers", "isDoneNow", "(I)Z"⟩, 11), (⟨"KeptVolunteers", "isNumber", "(I)Z"⟩, 11), (⟨"KeptVolunteers", "mayBeCast", "(II)Z"⟩, 11), (⟨"KeptVolunteers", "hasShow", "()Z"⟩, 11), (⟨"KeptVolunteers", "planMost", "()I"⟩, 11), (⟨"KeptVolunteers$Planner", "choose", "(II)V"⟩, 8), (⟨"KeptVolunteers$Planner", "stillOpen", "(I)I"⟩, 8), (⟨"KeptVolunteers$Planner", "openWays", "(II)I"⟩, 8), (⟨"KeptVolunteers$Planner", "hindersLater", "(I)Z"⟩, 8), (⟨"KeptVolunteers$Tour", "drawStrong", "()I"⟩, 6), (⟨"KeptVolunteers$Tour", "callUp", "(I)V"⟩, 6), (⟨"KeptVolunteers$Tour", "play", "(LKeptVolunteers$Bill;)I"⟩, 6), (⟨"KeptVolunteers$Tour", "busyFor", "(II)I"⟩, 6), (⟨"KeptVolunteers$Tour", "take", "(LKeptVolunteers$Trick;I)I"⟩, 6), (⟨"KeptVolunteers$Tour", "sendHome", "(I)V"⟩, 6)]
theorem lw_r1 : ∀ q ∈ lw_privs_1, lw_okq q := List.forall_mem_cons.mpr ⟨lw_p0, List.forall_mem_cons.mpr ⟨lw_p1, List.forall_mem_cons.mpr ⟨lw_p2, List.forall_mem_cons.mpr ⟨lw_p3, List.forall_mem_cons.mpr ⟨lw_p4, List.forall_mem_cons.mpr ⟨lw_p5, List.forall_mem_cons.mpr ⟨lw_p6, List.forall_mem_cons.mpr ⟨lw_p7, List.forall_mem_cons.mpr ⟨lw_p8, List.forall_mem_cons.mpr ⟨lw_p9, List.forall_mem_cons.mpr ⟨lw_p10, List.forall_mem_cons.mpr ⟨lw_p11, List.forall_mem_cons.mpr ⟨lw_p12, List.forall_mem_cons.mpr ⟨lw_p13, List.forall_mem_cons.mpr ⟨lw_p14, List.forall_mem_cons.mpr ⟨lw_p15, fun _ h => absurd h List.not_mem_nil⟩⟩⟩⟩⟩⟩⟩⟩⟩⟩⟩⟩⟩⟩⟩⟩
theorem lw_p16 : lw_okq (⟨"KeptVolunteers", "doneNow", "()I"⟩, 11) := ⟨⟨by decide +kernel, by decide +kernel⟩, List.mem_of_getElem? (i := 23) (by decide +kernel), List.mem_of_getElem? (i := 828) (by decide +kernel), List.mem_of_getElem? (i := 829) (by decide +kernel)⟩
theorem lw_p17 : lw_okq (⟨"KeptVolunteers", "digestOfShow", "(J)J"⟩, 11) := ⟨⟨by decide +kernel, by decide +kernel⟩, List.mem_of_getElem? (i := 23) (by decide +kernel), List.mem_of_getElem? (i := 842) (by decide +kernel), List.mem_of_getElem? (i := 843) (by decide +kernel)⟩
theorem lw_p18 : lw_okq (⟨"KeptVolunteersModel", "faultOf", "()I"⟩, 42) := ⟨⟨by decide +kernel, by decide +kernel⟩, List.mem_of_getElem? (i := 852) (by decide +kernel), List.mem_of_getElem? (i := 1001) (by decide +kernel), List.mem_of_getElem? (i := 1002) (by decide +kernel)⟩
theorem lw_p19 : lw_okq (⟨"KeptVolunteersModel", "isGood", "(I)Z"⟩, 42) := ⟨⟨by decide +kernel, by decide +kernel⟩, List.mem_of_getElem? (i := 852) (by decide +kernel), List.mem_of_getElem? (i := 1005) (by decide +kernel), List.mem_of_getElem? (i := 1006) (by decide +kernel)⟩
theorem lw_p20 : lw_okq (⟨"KeptVolunteersModel", "isTrickLetter", "(I)Z"⟩, 42) := ⟨⟨by decide +kernel, by decide +kernel⟩, List.mem_of_getElem? (i := 852) (by decide +kernel), List.mem_of_getElem? (i := 1012) (by decide +kernel), List.mem_of_getElem? (i := 1013) (by decide +kernel)⟩
theorem lw_p21 : lw_okq (⟨"KeptVolunteersModel", "isTrick", "(I)Z"⟩, 42) := ⟨⟨by decide +kernel, by decide +kernel⟩, List.mem_of_getElem? (i := 852) (by decide +kernel), List.mem_of_getElem? (i := 1030) (by decide +kernel), List.mem_of_getElem? (i := 1031) (by decide +kernel)⟩
theorem lw_p22 : lw_okq (⟨"KeptVolunteersModel", "tellTrick", "(II)I"⟩, 42) := ⟨⟨by decide +kernel, by decide +kernel⟩, List.mem_of_getElem? (i := 852) (by decide +kernel), List.mem_of_getElem? (i := 1034) (by decide +kernel), List.mem_of_getElem? (i := 1035) (by decide +kernel)⟩
theorem lw_p23 : lw_okq (⟨"KeptVolunteersModel", "wantsOf", "(I)I"⟩, 42) := ⟨⟨by decide +kernel, by decide +kernel⟩, List.mem_of_getElem? (i := 852) (by decide +kernel), List.mem_of_getElem? (i := 1038) (by decide +kernel), List.mem_of_getElem? (i := 1039) (by decide +kernel)⟩
theorem lw_p24 : lw_okq (⟨"KeptVolunteersModel", "isDoneBy", "(II)Z"⟩, 42) := ⟨⟨by decide +kernel, by decide +kernel⟩, List.mem_of_getElem? (i := 852) (by decide +kernel), List.mem_of_getElem? (i := 1042) (by decide +kernel), List.mem_of_getElem? (i := 1043) (by decide +kernel)⟩
theorem lw_p25 : lw_okq (⟨"KeptVolunteersModel", "strongAll", "(I)I"⟩, 42) := ⟨⟨by decide +kernel, by decide +kernel⟩, List.mem_of_getElem? (i := 852) (by decide +kernel), List.mem_of_getElem? (i := 1046) (by decide +kernel), List.mem_of_getElem? (i := 1047) (by decide +kernel)⟩
theorem lw_p26 : lw_okq (⟨"KeptVolunteersModel", "fittingSet", "(I)I"⟩, 42) := ⟨⟨by decide +kernel, by decide +kernel⟩, List.mem_of_getElem? (i := 852) (by decide +kernel), List.mem_of_getElem? (i := 1053) (by decide +kernel), List.mem_of_getElem? (i := 1054) (by decide +kernel)⟩
theorem lw_p27 : lw_okq (⟨"KeptVolunteersModel", "isKept", "(I)Z"⟩, 42) := ⟨⟨by decide +kernel, by decide +kernel⟩, List.mem_of_getElem? (i := 852) (by decide +kernel), List.mem_of_getElem? (i := 1057) (by decide +kernel), List.mem_of_getElem? (i := 1058) (by decide +kernel)⟩
theorem lw_p28 : lw_okq (⟨"KeptVolunteersModel", "fitsBy", "(II)Z"⟩, 42) := ⟨⟨by decide +kernel, by decide +kernel⟩, List.mem_of_getElem? (i := 852) (by decide +kernel), List.mem_of_getElem? (i := 1061) (by decide +kernel), List.mem_of_getElem? (i := 1062) (by decide +kernel)⟩
theorem lw_p29 : lw_okq (⟨"KeptVolunteersModel", "clashSet", "(I)I"⟩, 42) := ⟨⟨by decide +kernel, by decide +kernel⟩, List.mem_of_getElem? (i := 852) (by decide +kernel), List.mem_of_getElem? (i := 1065) (by decide +kernel), List.mem_of_getElem? (i := 1066) (by decide +kernel)⟩
theorem lw_p30 : lw_okq (⟨"KeptVolunteersModel", "clash", "(II)Z"⟩, 42) := ⟨⟨by decide +kernel, by decide +kernel⟩, List.mem_of_getElem? (i := 852) (by decide +kernel), List.mem_of_getElem? (i := 1069) (by decide +kernel), List.mem_of_getElem? (i := 1070) (by decide +kernel)⟩
theorem lw_p31 : lw_okq (⟨"KeptVolunteersModel", "busyBy", "(I)I"⟩, 42) := ⟨⟨by decide +kernel, by decide +kernel⟩, List.mem_of_getElem? (i := 852) (by decide +kernel), List.mem_of_getElem? (i := 1073) (by decide +kernel), List.mem_of_getElem? (i := 1074) (by decide +kernel)⟩
def lw_privs_2 : List (MethodName × Nat) := [(⟨"KeptVolunteers", "doneNow", "()I"⟩, 11), (⟨"KeptVolunteers", "digestOfShow", "(J)J"⟩, 11), (⟨"KeptVolunteersModel", "faultOf", "()I"⟩, 42), (⟨"KeptVolunteersModel", "isGood", "(I)Z"⟩, 42), (⟨"KeptVolunteersModel", "isTrickLetter", "(I)Z"⟩, 42), (⟨"KeptVolunteersModel", "isTrick", "(I)Z"⟩, 42), (⟨"KeptVolunteersModel", "tellTrick", "(II)I"⟩, 42), (⟨"KeptVolunteersModel", "wantsOf", "(I)I"⟩, 42), (⟨"KeptVolunteersModel", "isDoneBy", "(II)Z"⟩, 42), (⟨"KeptVolunteersModel", "strongAll", "(I)I"⟩, 42), (⟨"KeptVolunteersModel", "fittingSet", "(I)I"⟩, 42), (⟨"KeptVolunteersModel", "isKept", "(I)Z"⟩, 42), (⟨"KeptVolunteersModel", "fitsBy", "(II)Z"⟩, 42), (⟨"KeptVolunteersModel", "clashSet", "(I)I"⟩, 42), (⟨"KeptVolunteersModel", "clash", "(II)Z"⟩, 42), (⟨"KeptVolunteersModel", "busyBy", "(I)I"⟩, 42)]
theorem lw_r2 : ∀ q ∈ lw_privs_2, lw_okq q := List.forall_mem_cons.mpr ⟨lw_p16, List.forall_mem_cons.mpr ⟨lw_p17, List.forall_mem_cons.mpr ⟨lw_p18, List.forall_mem_cons.mpr ⟨lw_p19, List.forall_mem_cons.mpr ⟨lw_p20, List.forall_mem_cons.mpr ⟨lw_p21, List.forall_mem_cons.mpr ⟨lw_p22, List.forall_mem_cons.mpr ⟨lw_p23, List.forall_mem_cons.mpr ⟨lw_p24, List.forall_mem_cons.mpr ⟨lw_p25, List.forall_mem_cons.mpr ⟨lw_p26, List.forall_mem_cons.mpr ⟨lw_p27, List.forall_mem_cons.mpr ⟨lw_p28, List.forall_mem_cons.mpr ⟨lw_p29, List.forall_mem_cons.mpr ⟨lw_p30, List.forall_mem_cons.mpr ⟨lw_p31, fun _ h => absurd h List.not_mem_nil⟩⟩⟩⟩⟩⟩⟩⟩⟩⟩⟩⟩⟩⟩⟩⟩
theorem lw_p32 : lw_okq (⟨"KeptVolunteersModel", "hoursOf", "(I)I"⟩, 42) := ⟨⟨by decide +kernel, by decide +kernel⟩, List.mem_of_getElem? (i := 852) (by decide +kernel), List.mem_of_getElem? (i := 1077) (by decide +kernel), List.mem_of_getElem? (i := 1078) (by decide +kernel)⟩
theorem lw_p33 : lw_okq (⟨"KeptVolunteersModel", "isPerson", "(I)Z"⟩, 42) := ⟨⟨by decide +kernel, by decide +kernel⟩, List.mem_of_getElem? (i := 852) (by decide +kernel), List.mem_of_getElem? (i := 1090) (by decide +kernel), List.mem_of_getElem? (i := 1091) (by decide +kernel)⟩
theorem lw_p34 : lw_okq (⟨"KeptVolunteersModel", "tellPerson", "(II)I"⟩, 42) := ⟨⟨by decide +kernel, by decide +kernel⟩, List.mem_of_getElem? (i := 852) (by decide +kernel), List.mem_of_getElem? (i := 1094) (by decide +kernel), List.mem_of_getElem? (i := 1095) (by decide +kernel)⟩
theorem lw_p35 : lw_okq (⟨"KeptVolunteersModel", "castSet", "(I)I"⟩, 42) := ⟨⟨by decide +kernel, by decide +kernel⟩, List.mem_of_getElem? (i := 852) (by decide +kernel), List.mem_of_getElem? (i := 1098) (by decide +kernel), List.mem_of_getElem? (i := 1099) (by decide +kernel)⟩
theorem lw_p36 : lw_okq (⟨"KeptVolunteersModel", "busySet", "(I)I"⟩, 42) := ⟨⟨by decide +kernel, by decide +kernel⟩, List.mem_of_getElem? (i := 852) (by decide +kernel), List.mem_of_getElem? (i := 1102) (by decide +kernel), List.mem_of_getElem? (i := 1103) (by decide +kernel)⟩
theorem lw_p37 : lw_okq (⟨"KeptVolunteersModel", "strongsOf", "(I)I"⟩, 42) := ⟨⟨by decide +kernel, by decide +kernel⟩, List.mem_of_getElem? (i := 852) (by decide +kernel), List.mem_of_getElem? (i := 1106) (by decide +kernel), List.mem_of_getElem? (i := 1107) (by decide +kernel)⟩
theorem lw_p38 : lw_okq (⟨"KeptVolunteersModel", "tryOf", "(I)I"⟩, 42) := ⟨⟨by decide +kernel, by decide +kernel⟩, List.mem_of_getElem? (i := 852) (by decide +kernel), List.mem_of_getElem? (i := 1110) (by decide +kernel), List.mem_of_getElem? (i := 1111) (by decide +kernel)⟩
theorem lw_p39 : lw_okq (⟨"KeptVolunteersModel", "lacks", "()Z"⟩, 42) := ⟨⟨by decide +kernel, by decide +kernel⟩, List.mem_of_getElem? (i := 852) (by decide +kernel), List.mem_of_getElem? (i := 1130) (by decide +kernel), List.mem_of_getElem? (i := 1131) (by decide +kernel)⟩
theorem lw_p40 : lw_okq (⟨"KeptVolunteersModel", "doneNow", "()I"⟩, 42) := ⟨⟨by decide +kernel, by decide +kernel⟩, List.mem_of_getElem? (i := 852) (by decide +kernel), List.mem_of_getElem? (i := 1134) (by decide +kernel), List.mem_of_getElem? (i := 1135) (by decide +kernel)⟩
theorem lw_p41 : lw_okq (⟨"KeptVolunteersModel", "keptSet", "()I"⟩, 42) := ⟨⟨by decide +kernel, by decide +kernel⟩, List.mem_of_getElem? (i := 852) (by decide +kernel), List.mem_of_getElem? (i := 1146) (by decide +kernel), List.mem_of_getElem? (i := 1147) (by decide +kernel)⟩
theorem lw_p42 : lw_okq (⟨"KeptVolunteersModel", "mostOf", "(I)I"⟩, 42) := ⟨⟨by decide +kernel, by decide +kernel⟩, List.mem_of_getElem? (i := 852) (by decide +kernel), List.mem_of_getElem? (i := 1161) (by decide +kernel), List.mem_of_getElem? (i := 1162) (by decide +kernel)⟩
theorem lw_p43 : lw_okq (⟨"KeptVolunteersModel", "layMost", "(I)I"⟩, 42) := ⟨⟨by decide +kernel, by decide +kernel⟩, List.mem_of_getElem? (i := 852) (by decide +kernel), List.mem_of_getElem? (i := 1165) (by decide +kernel), List.mem_of_getElem? (i := 1166) (by decide +kernel)⟩
theorem lw_p44 : lw_okq (⟨"KeptVolunteersModel", "layChoices", "(I)V"⟩, 42) := ⟨⟨by decide +kernel, by decide +kernel⟩, List.mem_of_getElem? (i := 852) (by decide +kernel), List.mem_of_getElem? (i := 1169) (by decide +kernel), List.mem_of_getElem? (i := 1170) (by decide +kernel)⟩
theorem lw_p45 : lw_okq (⟨"KeptVolunteersModel", "isFree", "(II)Z"⟩, 42) := ⟨⟨by decide +kernel, by decide +kernel⟩, List.mem_of_getElem? (i := 852) (by decide +kernel), List.mem_of_getElem? (i := 1176) (by decide +kernel), List.mem_of_getElem? (i := 1177) (by decide +kernel)⟩
theorem lw_p46 : lw_okq (⟨"KeptVolunteersModel", "fewestOf", "(I)I"⟩, 42) := ⟨⟨by decide +kernel, by decide +kernel⟩, List.mem_of_getElem? (i := 852) (by decide +kernel), List.mem_of_getElem? (i := 1188) (by decide +kernel), List.mem_of_getElem? (i := 1189) (by decide +kernel)⟩
theorem lw_p47 : lw_okq (⟨"KeptVolunteersModel", "spareOf", "()I"⟩, 42) := ⟨⟨by decide +kernel, by decide +kernel⟩, List.mem_of_getElem? (i := 852) (by decide +kernel), List.mem_of_getElem? (i := 1196) (by decide +kernel), List.mem_of_getElem? (i := 1197) (by decide +kernel)⟩
def lw_privs_3 : List (MethodName × Nat) := [(⟨"KeptVolunteersModel", "hoursOf", "(I)I"⟩, 42), (⟨"KeptVolunteersModel", "isPerson", "(I)Z"⟩, 42), (⟨"KeptVolunteersModel", "tellPerson", "(II)I"⟩, 42), (⟨"KeptVolunteersModel", "castSet", "(I)I"⟩, 42), (⟨"KeptVolunteersModel", "busySet", "(I)I"⟩, 42), (⟨"KeptVolunteersModel", "strongsOf", "(I)I"⟩, 42), (⟨"KeptVolunteersModel", "tryOf", "(I)I"⟩, 42), (⟨"KeptVolunteersModel", "lacks", "()Z"⟩, 42), (⟨"KeptVolunteersModel", "doneNow", "()I"⟩, 42), (⟨"KeptVolunteersModel", "keptSet", "()I"⟩, 42), (⟨"KeptVolunteersModel", "mostOf", "(I)I"⟩, 42), (⟨"KeptVolunteersModel", "layMost", "(I)I"⟩, 42), (⟨"KeptVolunteersModel", "layChoices", "(I)V"⟩, 42), (⟨"KeptVolunteersModel", "isFree", "(II)Z"⟩, 42), (⟨"KeptVolunteersModel", "fewestOf", "(I)I"⟩, 42), (⟨"KeptVolunteersModel", "spareOf", "()I"⟩, 42)]
theorem lw_r3 : ∀ q ∈ lw_privs_3, lw_okq q := List.forall_mem_cons.mpr ⟨lw_p32, List.forall_mem_cons.mpr ⟨lw_p33, List.forall_mem_cons.mpr ⟨lw_p34, List.forall_mem_cons.mpr ⟨lw_p35, List.forall_mem_cons.mpr ⟨lw_p36, List.forall_mem_cons.mpr ⟨lw_p37, List.forall_mem_cons.mpr ⟨lw_p38, List.forall_mem_cons.mpr ⟨lw_p39, List.forall_mem_cons.mpr ⟨lw_p40, List.forall_mem_cons.mpr ⟨lw_p41, List.forall_mem_cons.mpr ⟨lw_p42, List.forall_mem_cons.mpr ⟨lw_p43, List.forall_mem_cons.mpr ⟨lw_p44, List.forall_mem_cons.mpr ⟨lw_p45, List.forall_mem_cons.mpr ⟨lw_p46, List.forall_mem_cons.mpr ⟨lw_p47, fun _ h => absurd h List.not_mem_nil⟩⟩⟩⟩⟩⟩⟩⟩⟩⟩⟩⟩⟩⟩⟩⟩
theorem lw_p48 : lw_okq (⟨"KeptVolunteersModel", "wantsAt", "(I)I"⟩, 42) := ⟨⟨by decide +kernel, by decide +kernel⟩, List.mem_of_getElem? (i := 852) (by decide +kernel), List.mem_of_getElem? (i := 1205) (by decide +kernel), List.mem_of_getElem? (i := 1206) (by decide +kernel)⟩
theorem lw_p49 : lw_okq (⟨"KeptVolunteersModel", "routeOf", "(II)I"⟩, 42) := ⟨⟨by decide +kernel, by decide +kernel⟩, List.mem_of_getElem? (i := 852) (by decide +kernel), List.mem_of_getElem? (i := 1213) (by decide +kernel), List.mem_of_getElem? (i := 1214) (by decide +kernel)⟩
theorem lw_p50 : lw_okq (⟨"KeptVolunteersModel", "draw", "(I)I"⟩, 42) := ⟨⟨by decide +kernel, by decide +kernel⟩, List.mem_of_getElem? (i := 852) (by decide +kernel), List.mem_of_getElem? (i := 1234) (by decide +kernel), List.mem_of_getElem? (i := 1235) (by decide +kernel)⟩
theorem lw_p51 : lw_okq (⟨"KeptVolunteersModel", "takesLine", "(I)Z"⟩, 42) := ⟨⟨by decide +kernel, by decide +kernel⟩, List.mem_of_getElem? (i := 852) (by decide +kernel), List.mem_of_getElem? (i := 1242) (by decide +kernel), List.mem_of_getElem? (i := 1243) (by decide +kernel)⟩
theorem lw_p52 : lw_okq (⟨"KeptVolunteersModel", "letLineGo", "()I"⟩, 42) := ⟨⟨by decide +kernel, by decide +kernel⟩, List.mem_of_getElem? (i := 852) (by decide +kernel), List.mem_of_getElem? (i := 1246) (by decide +kernel), List.mem_of_getElem? (i := 1247) (by decide +kernel)⟩
theorem lw_p53 : lw_okq (⟨"KeptVolunteersModel", "countOf", "(I)I"⟩, 42) := ⟨⟨by decide +kernel, by decide +kernel⟩, List.mem_of_getElem? (i := 852) (by decide +kernel), List.mem_of_getElem? (i := 1262) (by decide +kernel), List.mem_of_getElem? (i := 1263) (by decide +kernel)⟩
theorem lw_p54 : lw_okq (⟨"KeptVolunteersModel", "bound", "()I"⟩, 42) := ⟨⟨by decide +kernel, by decide +kernel⟩, List.mem_of_getElem? (i := 852) (by decide +kernel), List.mem_of_getElem? (i := 1266) (by decide +kernel), List.mem_of_getElem? (i := 1267) (by decide +kernel)⟩
theorem lw_p55 : lw_okq (⟨"KeptVolunteersModel", "countMore", "(I)I"⟩, 42) := ⟨⟨by decide +kernel, by decide +kernel⟩, List.mem_of_getElem? (i := 852) (by decide +kernel), List.mem_of_getElem? (i := 1270) (by decide +kernel), List.mem_of_getElem? (i := 1271) (by decide +kernel)⟩
theorem lw_p56 : lw_okq (⟨"KeptVolunteersModel", "say", "(J)V"⟩, 42) := ⟨⟨by decide +kernel, by decide +kernel⟩, List.mem_of_getElem? (i := 852) (by decide +kernel), List.mem_of_getElem? (i := 1279) (by decide +kernel), List.mem_of_getElem? (i := 1280) (by decide +kernel)⟩
def lw_privs_4 : List (MethodName × Nat) := [(⟨"KeptVolunteersModel", "wantsAt", "(I)I"⟩, 42), (⟨"KeptVolunteersModel", "routeOf", "(II)I"⟩, 42), (⟨"KeptVolunteersModel", "draw", "(I)I"⟩, 42), (⟨"KeptVolunteersModel", "takesLine", "(I)Z"⟩, 42), (⟨"KeptVolunteersModel", "letLineGo", "()I"⟩, 42), (⟨"KeptVolunteersModel", "countOf", "(I)I"⟩, 42), (⟨"KeptVolunteersModel", "bound", "()I"⟩, 42), (⟨"KeptVolunteersModel", "countMore", "(I)I"⟩, 42), (⟨"KeptVolunteersModel", "say", "(J)V"⟩, 42)]
theorem lw_r4 : ∀ q ∈ lw_privs_4, lw_okq q := List.forall_mem_cons.mpr ⟨lw_p48, List.forall_mem_cons.mpr ⟨lw_p49, List.forall_mem_cons.mpr ⟨lw_p50, List.forall_mem_cons.mpr ⟨lw_p51, List.forall_mem_cons.mpr ⟨lw_p52, List.forall_mem_cons.mpr ⟨lw_p53, List.forall_mem_cons.mpr ⟨lw_p54, List.forall_mem_cons.mpr ⟨lw_p55, List.forall_mem_cons.mpr ⟨lw_p56, fun _ h => absurd h List.not_mem_nil⟩⟩⟩⟩⟩⟩⟩⟩⟩
def lw_privs : List (MethodName × Nat) := lw_privs_1 ++ (lw_privs_2 ++ (lw_privs_3 ++ (lw_privs_4)))
def lw_tbl : List Cond := k2_sels lw_privs ++ tables_1
theorem lw_privs_ok : ∀ q ∈ lw_privs, lw_okq q := by
  show ∀ q ∈ lw_privs_1 ++ (lw_privs_2 ++ (lw_privs_3 ++ (lw_privs_4))), lw_okq q
  exact List.forall_mem_append.mpr ⟨lw_r1, List.forall_mem_append.mpr ⟨lw_r2, List.forall_mem_append.mpr ⟨lw_r3, lw_r4⟩⟩⟩
end
section
theorem goodIn_r {big : List Cond} (ws : List Cond) (ps : List Nat) (hp : ws = ps.filterMap (fun i => big[i]?)) (h : ws.all goodWord = true) : GoodIn big ws := by
  intro w hw
  have h1 := List.all_eq_true.mp h w hw
  rw [hp] at hw
  obtain ⟨i, -, hi⟩ := List.mem_filterMap.mp hw
  have hm : w ∈ big := by first | exact List.mem_of_getElem? hi | exact List.getElem?_mem hi
  exact ⟨hm, good_of_word h1⟩
theorem goodIn_app {big a b : List Cond} (ha : GoodIn big a) (hb : GoodIn big b) : GoodIn big (a ++ b) := fun w h => (List.mem_append.mp h).elim (ha w) (hb w)
theorem goodIn_ca {big a b : List Cond} {c : Cond} (ha : GoodIn big (c :: a)) (hb : GoodIn big b) : GoodIn big (c :: (a ++ b)) := fun w h => (List.mem_cons.mp h).elim (fun e => ha w (List.mem_cons.mpr (Or.inl e))) (fun h => (List.mem_append.mp h).elim (fun h => ha w (List.mem_cons.mpr (Or.inr h))) (hb w))
theorem goodIn_sub {big ws : List Cond} (hm : ∀ w ∈ ws, w ∈ big) (h : ws.all goodWord = true) : GoodIn big ws := fun w hw => ⟨hm w hw, good_of_word (List.all_eq_true.mp h w hw)⟩
def RX0 : String := "KeptVolunteers$Bill"
def TX0 : u_T := fun k => match k with
  | 0 => ("KeptVolunteers$Bill", "tricks", "[LKeptVolunteers$Trick;", true)
  | _ => ("KeptVolunteers$Bill", "people", "I", true)
def tyX0 : Nat → FieldType := fun k => match k with
  | 0 => .array (.object "KeptVolunteers$Trick")
  | _ => .int
abbrev wsX00 : List Cond := u_ws RX0 TX0 2
theorem nmX0 : ∀ a, a < 2 → ∀ b, b < 2 → a ≠ b → (TX0 a).2.1 ≠ (TX0 b).2.1 := by decide +kernel
theorem tyX0_ok : ∀ k, k < 2 → parseFieldDescriptor (TX0 k).2.2.1 = some (tyX0 k) := by decide +kernel
abbrev cX0_init : ByteArray := prog_2_method_1_code
def yX0_init : MethodName := ⟨RX0, "<init>", "([LKeptVolunteers$Trick;I)V"⟩
abbrev cX0_clashesOf : ByteArray := prog_2_method_2_code
def yX0_clashesOf : MethodName := ⟨RX0, "clashesOf", "(I)I"⟩
abbrev cX0_isDoneBy : ByteArray := prog_2_method_3_code
def yX0_isDoneBy : MethodName := ⟨RX0, "isDoneBy", "(II[I)Z"⟩
abbrev cX0_busyHoursOf : ByteArray := prog_2_method_4_code
def yX0_busyHoursOf : MethodName := ⟨RX0, "busyHoursOf", "(I)I"⟩
abbrev cX0_wantedIn : ByteArray := prog_2_method_5_code
def yX0_wantedIn : MethodName := ⟨RX0, "wantedIn", "(I)I"⟩
abbrev cX0_bound : ByteArray := prog_2_method_6_code
def yX0_bound : MethodName := ⟨RX0, "bound", "()I"⟩
abbrev cX0_trickToTry : ByteArray := prog_2_method_7_code
def yX0_trickToTry : MethodName := ⟨RX0, "trickToTry", "(I)I"⟩
def RX1 : String := "KeptVolunteers$LongTrick"
def TX1 : u_T := fun k => match k with
  | 0 => ("KeptVolunteers$Trick", "hour", "I", true)
  | 1 => ("KeptVolunteers$Trick", "hours", "I", true)
  | _ => ("KeptVolunteers$Trick", "need", "I", true)
def tyX1 : Nat → FieldType := fun k => match k with
  | 0 => .int
  | 1 => .int
  | _ => .int
abbrev wsX10 : List Cond := u_ws RX1 TX1 3
theorem nmX1 : ∀ a, a < 3 → ∀ b, b < 3 → a ≠ b → (TX1 a).2.1 ≠ (TX1 b).2.1 := by decide +kernel
theorem tyX1_ok : ∀ k, k < 3 → parseFieldDescriptor (TX1 k).2.2.1 = some (tyX1 k) := by decide +kernel
abbrev cX1_init : ByteArray := prog_3_method_1_code
def yX1_init : MethodName := ⟨RX1, "<init>", "(III)V"⟩
abbrev cX1_kind : ByteArray := prog_3_method_2_code
def yX1_kind : MethodName := ⟨RX1, "kind", "()I"⟩
abbrev cX1_restHours : ByteArray := prog_3_method_3_code
def yX1_restHours : MethodName := ⟨RX1, "restHours", "()I"⟩
def RX2 : String := "KeptVolunteers$Page"
def TX2 : u_T := fun k => match k with
  | 0 => ("KeptVolunteers$Page", "codes", "[I", true)
  | _ => ("KeptVolunteers$Page", "size", "I", false)
def tyX2 : Nat → FieldType := fun k => match k with
  | 0 => .array .int
  | _ => .int
abbrev wsX20 : List Cond := u_ws RX2 TX2 2
theorem nmX2 : ∀ a, a < 2 → ∀ b, b < 2 → a ≠ b → (TX2 a).2.1 ≠ (TX2 b).2.1 := by decide +kernel
theorem tyX2_ok : ∀ k, k < 2 → parseFieldDescriptor (TX2 k).2.2.1 = some (tyX2 k) := by decide +kernel
abbrev cX2_init : ByteArray := prog_4_method_1_code
def yX2_init : MethodName := ⟨RX2, "<init>", "()V"⟩
abbrev cX2_put : ByteArray := prog_4_method_2_code
def yX2_put : MethodName := ⟨RX2, "put", "(I)Z"⟩
abbrev cX2_firstFault : ByteArray := prog_4_method_3_code
def yX2_firstFault : MethodName := ⟨RX2, "firstFault", "()I"⟩
abbrev cX2_isShow : ByteArray := prog_4_method_4_code
def yX2_isShow : MethodName := ⟨RX2, "isShow", "()Z"⟩
abbrev cX2_tricksEnd : ByteArray := prog_4_method_5_code
def yX2_tricksEnd : MethodName := ⟨RX2, "tricksEnd", "()I"⟩
abbrev cX2_isOfTricks : ByteArray := prog_4_method_6_code
def yX2_isOfTricks : MethodName := ⟨RX2, "isOfTricks", "(I)Z"⟩
abbrev cX2_isOfPeople : ByteArray := prog_4_method_7_code
def yX2_isOfPeople : MethodName := ⟨RX2, "isOfPeople", "(II)Z"⟩
abbrev cX2_isDigit : ByteArray := prog_4_method_8_code
def yX2_isDigit : MethodName := ⟨RX2, "isDigit", "(III)Z"⟩
abbrev cX2_digitAt : ByteArray := prog_4_method_9_code
def yX2_digitAt : MethodName := ⟨RX2, "digitAt", "(I)I"⟩
abbrev cX2_readBill : ByteArray := prog_4_method_10_code
def yX2_readBill : MethodName := ⟨RX2, "readBill", "()LKeptVolunteers$Bill;"⟩
abbrev cX2_readTrick : ByteArray := prog_4_method_11_code
def yX2_readTrick : MethodName := ⟨RX2, "readTrick", "(I)LKeptVolunteers$Trick;"⟩
abbrev cX2_readPeople : ByteArray := prog_4_method_12_code
def yX2_readPeople : MethodName := ⟨RX2, "readPeople", "(LKeptVolunteers$Troupe;I)V"⟩
def RX3 : String := "KeptVolunteers$Pair"
def TX3 : u_T := fun k => match k with
  | 0 => ("KeptVolunteers$Trick", "hour", "I", true)
  | 1 => ("KeptVolunteers$Trick", "hours", "I", true)
  | _ => ("KeptVolunteers$Trick", "need", "I", true)
def tyX3 : Nat → FieldType := fun k => match k with
  | 0 => .int
  | 1 => .int
  | _ => .int
abbrev wsX30 : List Cond := u_ws RX3 TX3 3
theorem nmX3 : ∀ a, a < 3 → ∀ b, b < 3 → a ≠ b → (TX3 a).2.1 ≠ (TX3 b).2.1 := by decide +kernel
theorem tyX3_ok : ∀ k, k < 3 → parseFieldDescriptor (TX3 k).2.2.1 = some (tyX3 k) := by decide +kernel
abbrev cX3_init : ByteArray := prog_5_method_1_code
def yX3_init : MethodName := ⟨RX3, "<init>", "(III)V"⟩
abbrev cX3_kind : ByteArray := prog_5_method_2_code
def yX3_kind : MethodName := ⟨RX3, "kind", "()I"⟩
abbrev cX3_crew : ByteArray := prog_5_method_3_code
def yX3_crew : MethodName := ⟨RX3, "crew", "()I"⟩
def RX4 : String := "KeptVolunteers$Planner"
def TX4 : u_T := fun k => match k with
  | 0 => ("KeptVolunteers$Planner", "best", "[I", true)
  | 1 => ("KeptVolunteers$Planner", "chosen", "[I", true)
  | 2 => ("KeptVolunteers$Planner", "ways", "[I", true)
  | 3 => ("KeptVolunteers$Planner", "clashes", "[I", true)
  | 4 => ("KeptVolunteers$Planner", "apart", "[I", true)
  | 5 => ("KeptVolunteers$Planner", "tricks", "I", false)
  | 6 => ("KeptVolunteers$Planner", "away", "I", false)
  | _ => ("KeptVolunteers$Planner", "bestDone", "I", false)
def tyX4 : Nat → FieldType := fun k => match k with
  | 0 => .array .int
  | 1 => .array .int
  | 2 => .array .int
  | 3 => .array .int
  | 4 => .array .int
  | 5 => .int
  | 6 => .int
  | _ => .int
abbrev wsX40 : List Cond := u_ws RX4 TX4 8
theorem nmX4 : ∀ a, a < 8 → ∀ b, b < 8 → a ≠ b → (TX4 a).2.1 ≠ (TX4 b).2.1 := by decide +kernel
theorem tyX4_ok : ∀ k, k < 8 → parseFieldDescriptor (TX4 k).2.2.1 = some (tyX4 k) := by decide +kernel
abbrev cX4_init : ByteArray := prog_6_method_1_code
def yX4_init : MethodName := ⟨RX4, "<init>", "()V"⟩
abbrev cX4_prepare : ByteArray := prog_6_method_2_code
def yX4_prepare : MethodName := ⟨RX4, "prepare", "(LKeptVolunteers$Bill;[I)V"⟩
abbrev cX4_search : ByteArray := prog_6_method_3_code
def yX4_search : MethodName := ⟨RX4, "search", "(II)I"⟩
abbrev cX4_choose : ByteArray := prog_6_method_4_code
def yX4_choose : MethodName := ⟨RX4, "choose", "(II)V"⟩
abbrev cX4_hindersLater : ByteArray := prog_6_method_5_code
def yX4_hindersLater : MethodName := ⟨RX4, "hindersLater", "(I)Z"⟩
abbrev cX4_stillOpen : ByteArray := prog_6_method_6_code
def yX4_stillOpen : MethodName := ⟨RX4, "stillOpen", "(I)I"⟩
abbrev cX4_openWays : ByteArray := prog_6_method_7_code
def yX4_openWays : MethodName := ⟨RX4, "openWays", "(II)I"⟩
abbrev cX4_fewestOf : ByteArray := prog_6_method_8_code
def yX4_fewestOf : MethodName := ⟨RX4, "fewestOf", "(I)I"⟩
abbrev cX4_sparedOf : ByteArray := prog_6_method_9_code
def yX4_sparedOf : MethodName := ⟨RX4, "sparedOf", "(I)I"⟩
def RX5 : String := "KeptVolunteers$Rope"
def TX5 : u_T := fun k => match k with
  | 0 => ("KeptVolunteers$Trick", "hour", "I", true)
  | 1 => ("KeptVolunteers$Trick", "hours", "I", true)
  | _ => ("KeptVolunteers$Trick", "need", "I", true)
def tyX5 : Nat → FieldType := fun k => match k with
  | 0 => .int
  | 1 => .int
  | _ => .int
abbrev wsX50 : List Cond := u_ws RX5 TX5 3
theorem nmX5 : ∀ a, a < 3 → ∀ b, b < 3 → a ≠ b → (TX5 a).2.1 ≠ (TX5 b).2.1 := by decide +kernel
theorem tyX5_ok : ∀ k, k < 3 → parseFieldDescriptor (TX5 k).2.2.1 = some (tyX5 k) := by decide +kernel
abbrev cX5_init : ByteArray := prog_7_method_1_code
def yX5_init : MethodName := ⟨RX5, "<init>", "(III)V"⟩
abbrev cX5_kind : ByteArray := prog_7_method_2_code
def yX5_kind : MethodName := ⟨RX5, "kind", "()I"⟩
abbrev cX5_suits : ByteArray := prog_7_method_3_code
def yX5_suits : MethodName := ⟨RX5, "suits", "(I)Z"⟩
abbrev cX5_holdsWith : ByteArray := prog_7_method_4_code
def yX5_holdsWith : MethodName := ⟨RX5, "holdsWith", "(I)Z"⟩
def RX6 : String := "KeptVolunteers$Saw"
def TX6 : u_T := fun k => match k with
  | 0 => ("KeptVolunteers$Trick", "hour", "I", true)
  | 1 => ("KeptVolunteers$Trick", "hours", "I", true)
  | _ => ("KeptVolunteers$Trick", "need", "I", true)
def tyX6 : Nat → FieldType := fun k => match k with
  | 0 => .int
  | 1 => .int
  | _ => .int
abbrev wsX60 : List Cond := u_ws RX6 TX6 3
theorem nmX6 : ∀ a, a < 3 → ∀ b, b < 3 → a ≠ b → (TX6 a).2.1 ≠ (TX6 b).2.1 := by decide +kernel
theorem tyX6_ok : ∀ k, k < 3 → parseFieldDescriptor (TX6 k).2.2.1 = some (tyX6 k) := by decide +kernel
abbrev cX6_init : ByteArray := prog_8_method_1_code
def yX6_init : MethodName := ⟨RX6, "<init>", "(III)V"⟩
abbrev cX6_kind : ByteArray := prog_8_method_2_code
def yX6_kind : MethodName := ⟨RX6, "kind", "()I"⟩
abbrev cX6_suits : ByteArray := prog_8_method_3_code
def yX6_suits : MethodName := ⟨RX6, "suits", "(I)Z"⟩
def RX7 : String := "KeptVolunteers$Tour"
def TX7 : u_T := fun k => match k with
  | 0 => ("KeptVolunteers$Tour", "line", "[I", true)
  | 1 => ("KeptVolunteers$Tour", "taken", "[I", true)
  | 2 => ("KeptVolunteers$Tour", "size", "I", false)
  | 3 => ("KeptVolunteers$Tour", "done", "I", false)
  | 4 => ("KeptVolunteers$Tour", "gone", "I", false)
  | _ => ("KeptVolunteers$Tour", "seed", "I", false)
def tyX7 : Nat → FieldType := fun k => match k with
  | 0 => .array .int
  | 1 => .array .int
  | 2 => .int
  | 3 => .int
  | 4 => .int
  | _ => .int
abbrev wsX70 : List Cond := u_ws RX7 TX7 6
theorem nmX7 : ∀ a, a < 6 → ∀ b, b < 6 → a ≠ b → (TX7 a).2.1 ≠ (TX7 b).2.1 := by decide +kernel
theorem tyX7_ok : ∀ k, k < 6 → parseFieldDescriptor (TX7 k).2.2.1 = some (tyX7 k) := by decide +kernel
abbrev cX7_init : ByteArray := prog_9_method_1_code
def yX7_init : MethodName := ⟨RX7, "<init>", "()V"⟩
abbrev cX7_go : ByteArray := prog_9_method_2_code
def yX7_go : MethodName := ⟨RX7, "go", "(LKeptVolunteers$Bill;II)V"⟩
abbrev cX7_drawStrong : ByteArray := prog_9_method_3_code
def yX7_drawStrong : MethodName := ⟨RX7, "drawStrong", "()I"⟩
abbrev cX7_callUp : ByteArray := prog_9_method_4_code
def yX7_callUp : MethodName := ⟨RX7, "callUp", "(I)V"⟩
abbrev cX7_play : ByteArray := prog_9_method_5_code
def yX7_play : MethodName := ⟨RX7, "play", "(LKeptVolunteers$Bill;)I"⟩
abbrev cX7_busyFor : ByteArray := prog_9_method_6_code
def yX7_busyFor : MethodName := ⟨RX7, "busyFor", "(II)I"⟩
abbrev cX7_take : ByteArray := prog_9_method_7_code
def yX7_take : MethodName := ⟨RX7, "take", "(LKeptVolunteers$Trick;I)I"⟩
abbrev cX7_sendHome : ByteArray := prog_9_method_8_code
def yX7_sendHome : MethodName := ⟨RX7, "sendHome", "(I)V"⟩
def RX8 : String := "KeptVolunteers$Trick"
def TX8 : u_T := fun k => match k with
  | 0 => ("KeptVolunteers$Trick", "hour", "I", true)
  | 1 => ("KeptVolunteers$Trick", "hours", "I", true)
  | _ => ("KeptVolunteers$Trick", "need", "I", true)
def tyX8 : Nat → FieldType := fun k => match k with
  | 0 => .int
  | 1 => .int
  | _ => .int
abbrev wsX80 : List Cond := u_ws RX8 TX8 3
theorem nmX8 : ∀ a, a < 3 → ∀ b, b < 3 → a ≠ b → (TX8 a).2.1 ≠ (TX8 b).2.1 := by decide +kernel
theorem tyX8_ok : ∀ k, k < 3 → parseFieldDescriptor (TX8 k).2.2.1 = some (tyX8 k) := by decide +kernel
abbrev cX8_init : ByteArray := prog_10_method_1_code
def yX8_init : MethodName := ⟨RX8, "<init>", "(III)V"⟩
abbrev cX8_kind : ByteArray := prog_10_method_2_code
def yX8_kind : MethodName := ⟨RX8, "kind", "()I"⟩
abbrev cX8_crew : ByteArray := prog_10_method_3_code
def yX8_crew : MethodName := ⟨RX8, "crew", "()I"⟩
abbrev cX8_restHours : ByteArray := prog_10_method_4_code
def yX8_restHours : MethodName := ⟨RX8, "restHours", "()I"⟩
abbrev cX8_suits : ByteArray := prog_10_method_5_code
def yX8_suits : MethodName := ⟨RX8, "suits", "(I)Z"⟩
abbrev cX8_holdsWith : ByteArray := prog_10_method_6_code
def yX8_holdsWith : MethodName := ⟨RX8, "holdsWith", "(I)Z"⟩
abbrev cX8_runningHours : ByteArray := prog_10_method_7_code
def yX8_runningHours : MethodName := ⟨RX8, "runningHours", "()I"⟩
abbrev cX8_busyHours : ByteArray := prog_10_method_8_code
def yX8_busyHours : MethodName := ⟨RX8, "busyHours", "()I"⟩
abbrev cX8_suitedStrongs : ByteArray := prog_10_method_9_code
def yX8_suitedStrongs : MethodName := ⟨RX8, "suitedStrongs", "()I"⟩
def RX9 : String := "KeptVolunteers$Troupe"
def TX9 : u_T := fun k => match k with
  | 0 => ("KeptVolunteers$Troupe", "strong", "[I", true)
  | 1 => ("KeptVolunteers$Troupe", "town", "[I", true)
  | 2 => ("KeptVolunteers$Troupe", "held", "[I", true)
  | 3 => ("KeptVolunteers$Troupe", "casting", "[I", true)
  | 4 => ("KeptVolunteers$Troupe", "seenOf", "[I", true)
  | 5 => ("KeptVolunteers$Troupe", "seenStrongs", "[I", true)
  | 6 => ("KeptVolunteers$Troupe", "kept", "I", false)
  | 7 => ("KeptVolunteers$Troupe", "here", "I", false)
  | 8 => ("KeptVolunteers$Troupe", "nights", "I", false)
  | 9 => ("KeptVolunteers$Troupe", "doneOnNights", "I", false)
  | 10 => ("KeptVolunteers$Troupe", "moves", "I", false)
  | 11 => ("KeptVolunteers$Troupe", "called", "I", false)
  | 12 => ("KeptVolunteers$Troupe", "gone", "I", false)
  | _ => ("KeptVolunteers$Troupe", "seen", "I", false)
def tyX9 : Nat → FieldType := fun k => match k with
  | 0 => .array .int
  | 1 => .array .int
  | 2 => .array .int
  | 3 => .array .int
  | 4 => .array .int
  | 5 => .array .int
  | 6 => .int
  | 7 => .int
  | 8 => .int
  | 9 => .int
  | 10 => .int
  | 11 => .int
  | 12 => .int
  | _ => .int
abbrev wsX90 : List Cond := u_ws RX9 TX9 14
theorem nmX9 : ∀ a, a < 14 → ∀ b, b < 14 → a ≠ b → (TX9 a).2.1 ≠ (TX9 b).2.1 := by decide +kernel
theorem tyX9_ok : ∀ k, k < 14 → parseFieldDescriptor (TX9 k).2.2.1 = some (tyX9 k) := by decide +kernel
abbrev cX9_init : ByteArray := prog_11_method_1_code
def yX9_init : MethodName := ⟨RX9, "<init>", "()V"⟩
abbrev cX9_startAnew : ByteArray := prog_11_method_2_code
def yX9_startAnew : MethodName := ⟨RX9, "startAnew", "(I)V"⟩
abbrev cX9_copyFrom : ByteArray := prog_11_method_3_code
def yX9_copyFrom : MethodName := ⟨RX9, "copyFrom", "(LKeptVolunteers$Troupe;)V"⟩
abbrev cX9_tricksOf : ByteArray := prog_11_method_4_code
def yX9_tricksOf : MethodName := ⟨RX9, "tricksOf", "(I)I"⟩
abbrev cX9_suitedFor : ByteArray := prog_11_method_5_code
def yX9_suitedFor : MethodName := ⟨RX9, "suitedFor", "(LKeptVolunteers$Trick;)I"⟩
abbrev cX9_holdRopes : ByteArray := prog_11_method_6_code
def yX9_holdRopes : MethodName := ⟨RX9, "holdRopes", "(I)V"⟩
abbrev cX9_leave : ByteArray := prog_11_method_7_code
def yX9_leave : MethodName := ⟨RX9, "leave", "(I)V"⟩
abbrev cX9_join : ByteArray := prog_11_method_8_code
def yX9_join : MethodName := ⟨RX9, "join", "(II)V"⟩
abbrev cX9_movesAhead : ByteArray := prog_11_method_9_code
def yX9_movesAhead : MethodName := ⟨RX9, "movesAhead", "(I)I"⟩
abbrev cX9_addSeen : ByteArray := prog_11_method_10_code
def yX9_addSeen : MethodName := ⟨RX9, "addSeen", "(II)Z"⟩
abbrev cX9_strongsOf : ByteArray := prog_11_method_11_code
def yX9_strongsOf : MethodName := ⟨RX9, "strongsOf", "(I)I"⟩
def RX10 : String := "KeptVolunteers"
def TX10 : u_T := fun k => match k with
  | 0 => ("KeptVolunteers", "page", "LKeptVolunteers$Page;", true)
  | 1 => ("KeptVolunteers", "troupe", "LKeptVolunteers$Troupe;", true)
  | 2 => ("KeptVolunteers", "picture", "LKeptVolunteers$Troupe;", true)
  | 3 => ("KeptVolunteers", "planner", "LKeptVolunteers$Planner;", true)
  | 4 => ("KeptVolunteers", "tour", "LKeptVolunteers$Tour;", true)
  | 5 => ("KeptVolunteers", "bill", "LKeptVolunteers$Bill;", false)
  | 6 => ("KeptVolunteers", "pictured", "Z", false)
  | 7 => ("KeptVolunteers", "showsRead", "I", false)
  | 8 => ("KeptVolunteers", "mostsDone", "I", false)
  | 9 => ("KeptVolunteers", "fewestsDone", "I", false)
  | _ => ("KeptVolunteers", "sparesDone", "I", false)
def tyX10 : Nat → FieldType := fun k => match k with
  | 0 => .object "KeptVolunteers$Page"
  | 1 => .object "KeptVolunteers$Troupe"
  | 2 => .object "KeptVolunteers$Troupe"
  | 3 => .object "KeptVolunteers$Planner"
  | 4 => .object "KeptVolunteers$Tour"
  | 5 => .object "KeptVolunteers$Bill"
  | 6 => .boolean
  | 7 => .int
  | 8 => .int
  | 9 => .int
  | _ => .int
abbrev wsX100 : List Cond := u_ws RX10 TX10 11
theorem nmX10 : ∀ a, a < 11 → ∀ b, b < 11 → a ≠ b → (TX10 a).2.1 ≠ (TX10 b).2.1 := by decide +kernel
theorem tyX10_ok : ∀ k, k < 11 → parseFieldDescriptor (TX10 k).2.2.1 = some (tyX10 k) := by decide +kernel
abbrev cX10_init : ByteArray := prog_1_method_1_code
def yX10_init : MethodName := ⟨RX10, "<init>", "()V"⟩
abbrev cX10_letter : ByteArray := prog_1_method_2_code
def yX10_letter : MethodName := ⟨RX10, "letter", "(I)I"⟩
abbrev cX10_blank : ByteArray := prog_1_method_3_code
def yX10_blank : MethodName := ⟨RX10, "blank", "()I"⟩
abbrev cX10_fault : ByteArray := prog_1_method_4_code
def yX10_fault : MethodName := ⟨RX10, "fault", "()I"⟩
abbrev cX10_show : ByteArray := prog_1_method_5_code
def yX10_show : MethodName := ⟨RX10, "show", "()I"⟩
abbrev cX10_trick : ByteArray := prog_1_method_6_code
def yX10_trick : MethodName := ⟨RX10, "trick", "(II)I"⟩
abbrev cX10_as : ByteArray := prog_1_method_7_code
def yX10_as : MethodName := ⟨RX10, "as", "(II)I"⟩
abbrev cX10_person : ByteArray := prog_1_method_8_code
def yX10_person : MethodName := ⟨RX10, "person", "(II)I"⟩
abbrev cX10_cast : ByteArray := prog_1_method_9_code
def yX10_cast : MethodName := ⟨RX10, "cast", "(II)I"⟩
abbrev cX10_drop : ByteArray := prog_1_method_10_code
def yX10_drop : MethodName := ⟨RX10, "drop", "(II)I"⟩
abbrev cX10_clear : ByteArray := prog_1_method_11_code
def yX10_clear : MethodName := ⟨RX10, "clear", "()I"⟩
abbrev cX10_fill : ByteArray := prog_1_method_12_code
def yX10_fill : MethodName := ⟨RX10, "fill", "()I"⟩
abbrev cX10_night : ByteArray := prog_1_method_13_code
def yX10_night : MethodName := ⟨RX10, "night", "()I"⟩
abbrev cX10_move : ByteArray := prog_1_method_14_code
def yX10_move : MethodName := ⟨RX10, "move", "(Z)I"⟩
abbrev cX10_letGo : ByteArray := prog_1_method_15_code
def yX10_letGo : MethodName := ⟨RX10, "letGo", "(I)I"⟩
abbrev cX10_call : ByteArray := prog_1_method_16_code
def yX10_call : MethodName := ⟨RX10, "call", "(II)I"⟩
abbrev cX10_most : ByteArray := prog_1_method_17_code
def yX10_most : MethodName := ⟨RX10, "most", "(I)I"⟩
abbrev cX10_fewest : ByteArray := prog_1_method_18_code
def yX10_fewest : MethodName := ⟨RX10, "fewest", "(I)I"⟩
abbrev cX10_spare : ByteArray := prog_1_method_19_code
def yX10_spare : MethodName := ⟨RX10, "spare", "()I"⟩
abbrev cX10_wants : ByteArray := prog_1_method_20_code
def yX10_wants : MethodName := ⟨RX10, "wants", "(I)I"⟩
abbrev cX10_route : ByteArray := prog_1_method_21_code
def yX10_route : MethodName := ⟨RX10, "route", "(II)I"⟩
abbrev cX10_see : ByteArray := prog_1_method_22_code
def yX10_see : MethodName := ⟨RX10, "see", "(IIZ)I"⟩
abbrev cX10_forget : ByteArray := prog_1_method_23_code
def yX10_forget : MethodName := ⟨RX10, "forget", "()I"⟩
abbrev cX10_tours : ByteArray := prog_1_method_24_code
def yX10_tours : MethodName := ⟨RX10, "tours", "(III)I"⟩
abbrev cX10_image : ByteArray := prog_1_method_25_code
def yX10_image : MethodName := ⟨RX10, "image", "()I"⟩
abbrev cX10_restore : ByteArray := prog_1_method_26_code
def yX10_restore : MethodName := ⟨RX10, "restore", "()I"⟩
abbrev cX10_count : ByteArray := prog_1_method_27_code
def yX10_count : MethodName := ⟨RX10, "count", "(I)I"⟩
abbrev cX10_digest : ByteArray := prog_1_method_28_code
def yX10_digest : MethodName := ⟨RX10, "digest", "()J"⟩
abbrev cX10_digestOfShow : ByteArray := prog_1_method_29_code
def yX10_digestOfShow : MethodName := ⟨RX10, "digestOfShow", "(J)J"⟩
abbrev cX10_hasShow : ByteArray := prog_1_method_30_code
def yX10_hasShow : MethodName := ⟨RX10, "hasShow", "()Z"⟩
abbrev cX10_isTrick : ByteArray := prog_1_method_31_code
def yX10_isTrick : MethodName := ⟨RX10, "isTrick", "(I)Z"⟩
abbrev cX10_isNumber : ByteArray := prog_1_method_32_code
def yX10_isNumber : MethodName := ⟨RX10, "isNumber", "(I)Z"⟩
abbrev cX10_isDoneNow : ByteArray := prog_1_method_33_code
def yX10_isDoneNow : MethodName := ⟨RX10, "isDoneNow", "(I)Z"⟩
abbrev cX10_doneNow : ByteArray := prog_1_method_34_code
def yX10_doneNow : MethodName := ⟨RX10, "doneNow", "()I"⟩
abbrev cX10_mayBeCast : ByteArray := prog_1_method_35_code
def yX10_mayBeCast : MethodName := ⟨RX10, "mayBeCast", "(II)Z"⟩
abbrev cX10_planMost : ByteArray := prog_1_method_36_code
def yX10_planMost : MethodName := ⟨RX10, "planMost", "()I"⟩
abbrev cX10_has : ByteArray := prog_1_method_37_code
def yX10_has : MethodName := ⟨RX10, "has", "(II)Z"⟩
abbrev cX10_isOfKind : ByteArray := prog_1_method_38_code
def yX10_isOfKind : MethodName := ⟨RX10, "isOfKind", "(LKeptVolunteers$Trick;I)Z"⟩
abbrev cX10_fewestMoves : ByteArray := prog_1_method_39_code
def yX10_fewestMoves : MethodName := ⟨RX10, "fewestMoves", "(I)I"⟩
abbrev cX10_firstMove : ByteArray := prog_1_method_40_code
def yX10_firstMove : MethodName := ⟨RX10, "firstMove", "(I)I"⟩
abbrev cX10_movesOnFirst : ByteArray := prog_1_method_41_code
def yX10_movesOnFirst : MethodName := ⟨RX10, "movesOnFirst", "(I)I"⟩
abbrev cX10_movesBackFirst : ByteArray := prog_1_method_42_code
def yX10_movesBackFirst : MethodName := ⟨RX10, "movesBackFirst", "(I)I"⟩
abbrev cX10_movesBackFor : ByteArray := prog_1_method_43_code
def yX10_movesBackFor : MethodName := ⟨RX10, "movesBackFor", "(II)I"⟩
def RX11 : String := "KeptVolunteersModel"
def TX11 : u_T := fun k => match k with
  | 0 => ("KeptVolunteersModel", "page", "[I", true)
  | 1 => ("KeptVolunteersModel", "pageMany", "I", false)
  | 2 => ("KeptVolunteersModel", "endAt", "I", false)
  | 3 => ("KeptVolunteersModel", "tricks", "I", false)
  | 4 => ("KeptVolunteersModel", "people", "I", false)
  | 5 => ("KeptVolunteersModel", "town", "I", false)
  | 6 => ("KeptVolunteersModel", "nights", "I", false)
  | 7 => ("KeptVolunteersModel", "doneAll", "I", false)
  | 8 => ("KeptVolunteersModel", "moves", "I", false)
  | 9 => ("KeptVolunteersModel", "called", "I", false)
  | 10 => ("KeptVolunteersModel", "gone", "I", false)
  | 11 => ("KeptVolunteersModel", "showsRead", "I", false)
  | 12 => ("KeptVolunteersModel", "rows", "[I", true)
  | 13 => ("KeptVolunteersModel", "folk", "[I", true)
  | 14 => ("KeptVolunteersModel", "casts", "[I", true)
  | 15 => ("KeptVolunteersModel", "mostsDone", "I", false)
  | 16 => ("KeptVolunteersModel", "choices", "[I", true)
  | 17 => ("KeptVolunteersModel", "choicesMany", "[I", true)
  | 18 => ("KeptVolunteersModel", "row", "[I", true)
  | 19 => ("KeptVolunteersModel", "bestRow", "[I", true)
  | 20 => ("KeptVolunteersModel", "places", "[I", true)
  | 21 => ("KeptVolunteersModel", "fewestsDone", "I", false)
  | 22 => ("KeptVolunteersModel", "sparesDone", "I", false)
  | 23 => ("KeptVolunteersModel", "seenMany", "I", false)
  | 24 => ("KeptVolunteersModel", "sights", "[I", true)
  | 25 => ("KeptVolunteersModel", "seedNow", "I", false)
  | 26 => ("KeptVolunteersModel", "line", "[I", true)
  | 27 => ("KeptVolunteersModel", "lineIn", "[I", true)
  | 28 => ("KeptVolunteersModel", "lineDone", "[I", true)
  | 29 => ("KeptVolunteersModel", "lineMany", "I", false)
  | 30 => ("KeptVolunteersModel", "keptShow", "I", false)
  | 31 => ("KeptVolunteersModel", "keptTown", "I", false)
  | 32 => ("KeptVolunteersModel", "keptNights", "I", false)
  | 33 => ("KeptVolunteersModel", "keptDone", "I", false)
  | 34 => ("KeptVolunteersModel", "keptMoves", "I", false)
  | 35 => ("KeptVolunteersModel", "keptCalled", "I", false)
  | 36 => ("KeptVolunteersModel", "keptGone", "I", false)
  | 37 => ("KeptVolunteersModel", "keptSeen", "I", false)
  | 38 => ("KeptVolunteersModel", "keptFolk", "[I", true)
  | 39 => ("KeptVolunteersModel", "keptCasts", "[I", true)
  | 40 => ("KeptVolunteersModel", "keptSights", "[I", true)
  | _ => ("KeptVolunteersModel", "hash", "J", false)
def tyX11 : Nat → FieldType := fun k => match k with
  | 0 => .array .int
  | 1 => .int
  | 2 => .int
  | 3 => .int
  | 4 => .int
  | 5 => .int
  | 6 => .int
  | 7 => .int
  | 8 => .int
  | 9 => .int
  | 10 => .int
  | 11 => .int
  | 12 => .array .int
  | 13 => .array .int
  | 14 => .array .int
  | 15 => .int
  | 16 => .array .int
  | 17 => .array .int
  | 18 => .array .int
  | 19 => .array .int
  | 20 => .array .int
  | 21 => .int
  | 22 => .int
  | 23 => .int
  | 24 => .array .int
  | 25 => .int
  | 26 => .array .int
  | 27 => .array .int
  | 28 => .array .int
  | 29 => .int
  | 30 => .int
  | 31 => .int
  | 32 => .int
  | 33 => .int
  | 34 => .int
  | 35 => .int
  | 36 => .int
  | 37 => .int
  | 38 => .array .int
  | 39 => .array .int
  | 40 => .array .int
  | _ => .long
abbrev wsX110 : List Cond := u_ws RX11 TX11 42
theorem nmX11 : ∀ a, a < 42 → ∀ b, b < 42 → a ≠ b → (TX11 a).2.1 ≠ (TX11 b).2.1 := by decide +kernel
theorem tyX11_ok : ∀ k, k < 42 → parseFieldDescriptor (TX11 k).2.2.1 = some (tyX11 k) := by decide +kernel
abbrev cX11_init : ByteArray := prog_13_method_1_code
def yX11_init : MethodName := ⟨RX11, "<init>", "()V"⟩
abbrev cX11_in : ByteArray := prog_13_method_2_code
def yX11_in : MethodName := ⟨RX11, "in", "(JJJ)Z"⟩
abbrev cX11_copy : ByteArray := prog_13_method_3_code
def yX11_copy : MethodName := ⟨RX11, "copy", "([I[I)V"⟩
abbrev cX11_ones : ByteArray := prog_13_method_4_code
def yX11_ones : MethodName := ⟨RX11, "ones", "(I)I"⟩
abbrev cX11_letter : ByteArray := prog_13_method_5_code
def yX11_letter : MethodName := ⟨RX11, "letter", "(I)I"⟩
abbrev cX11_blank : ByteArray := prog_13_method_6_code
def yX11_blank : MethodName := ⟨RX11, "blank", "()I"⟩
abbrev cX11_kindBy : ByteArray := prog_13_method_7_code
def yX11_kindBy : MethodName := ⟨RX11, "kindBy", "(I)I"⟩
abbrev cX11_isTrickLetter : ByteArray := prog_13_method_8_code
def yX11_isTrickLetter : MethodName := ⟨RX11, "isTrickLetter", "(I)Z"⟩
abbrev cX11_isGood : ByteArray := prog_13_method_9_code
def yX11_isGood : MethodName := ⟨RX11, "isGood", "(I)Z"⟩
abbrev cX11_faultOf : ByteArray := prog_13_method_10_code
def yX11_faultOf : MethodName := ⟨RX11, "faultOf", "()I"⟩
abbrev cX11_fault : ByteArray := prog_13_method_11_code
def yX11_fault : MethodName := ⟨RX11, "fault", "()I"⟩
abbrev cX11_show : ByteArray := prog_13_method_12_code
def yX11_show : MethodName := ⟨RX11, "show", "()I"⟩
abbrev cX11_lacks : ByteArray := prog_13_method_13_code
def yX11_lacks : MethodName := ⟨RX11, "lacks", "()Z"⟩
abbrev cX11_isTrick : ByteArray := prog_13_method_14_code
def yX11_isTrick : MethodName := ⟨RX11, "isTrick", "(I)Z"⟩
abbrev cX11_isPerson : ByteArray := prog_13_method_15_code
def yX11_isPerson : MethodName := ⟨RX11, "isPerson", "(I)Z"⟩
abbrev cX11_isKept : ByteArray := prog_13_method_16_code
def yX11_isKept : MethodName := ⟨RX11, "isKept", "(I)Z"⟩
abbrev cX11_keptSet : ByteArray := prog_13_method_17_code
def yX11_keptSet : MethodName := ⟨RX11, "keptSet", "()I"⟩
abbrev cX11_wantsOf : ByteArray := prog_13_method_18_code
def yX11_wantsOf : MethodName := ⟨RX11, "wantsOf", "(I)I"⟩
abbrev cX11_fitsBy : ByteArray := prog_13_method_19_code
def yX11_fitsBy : MethodName := ⟨RX11, "fitsBy", "(II)Z"⟩
abbrev cX11_fittingSet : ByteArray := prog_13_method_20_code
def yX11_fittingSet : MethodName := ⟨RX11, "fittingSet", "(I)I"⟩
abbrev cX11_strongAll : ByteArray := prog_13_method_21_code
def yX11_strongAll : MethodName := ⟨RX11, "strongAll", "(I)I"⟩
abbrev cX11_isDoneBy : ByteArray := prog_13_method_22_code
def yX11_isDoneBy : MethodName := ⟨RX11, "isDoneBy", "(II)Z"⟩
abbrev cX11_hoursOf : ByteArray := prog_13_method_23_code
def yX11_hoursOf : MethodName := ⟨RX11, "hoursOf", "(I)I"⟩
abbrev cX11_busyBy : ByteArray := prog_13_method_24_code
def yX11_busyBy : MethodName := ⟨RX11, "busyBy", "(I)I"⟩
abbrev cX11_clash : ByteArray := prog_13_method_25_code
def yX11_clash : MethodName := ⟨RX11, "clash", "(II)Z"⟩
abbrev cX11_clashSet : ByteArray := prog_13_method_26_code
def yX11_clashSet : MethodName := ⟨RX11, "clashSet", "(I)I"⟩
abbrev cX11_tellTrick : ByteArray := prog_13_method_27_code
def yX11_tellTrick : MethodName := ⟨RX11, "tellTrick", "(II)I"⟩
abbrev cX11_trick : ByteArray := prog_13_method_28_code
def yX11_trick : MethodName := ⟨RX11, "trick", "(II)I"⟩
abbrev cX11_as : ByteArray := prog_13_method_29_code
def yX11_as : MethodName := ⟨RX11, "as", "(II)I"⟩
abbrev cX11_castSet : ByteArray := prog_13_method_30_code
def yX11_castSet : MethodName := ⟨RX11, "castSet", "(I)I"⟩
abbrev cX11_busySet : ByteArray := prog_13_method_31_code
def yX11_busySet : MethodName := ⟨RX11, "busySet", "(I)I"⟩
abbrev cX11_tellPerson : ByteArray := prog_13_method_32_code
def yX11_tellPerson : MethodName := ⟨RX11, "tellPerson", "(II)I"⟩
abbrev cX11_person : ByteArray := prog_13_method_33_code
def yX11_person : MethodName := ⟨RX11, "person", "(II)I"⟩
abbrev cX11_cast : ByteArray := prog_13_method_34_code
def yX11_cast : MethodName := ⟨RX11, "cast", "(II)I"⟩
abbrev cX11_drop : ByteArray := prog_13_method_35_code
def yX11_drop : MethodName := ⟨RX11, "drop", "(II)I"⟩
abbrev cX11_clear : ByteArray := prog_13_method_36_code
def yX11_clear : MethodName := ⟨RX11, "clear", "()I"⟩
abbrev cX11_doneNow : ByteArray := prog_13_method_37_code
def yX11_doneNow : MethodName := ⟨RX11, "doneNow", "()I"⟩
abbrev cX11_night : ByteArray := prog_13_method_38_code
def yX11_night : MethodName := ⟨RX11, "night", "()I"⟩
abbrev cX11_move : ByteArray := prog_13_method_39_code
def yX11_move : MethodName := ⟨RX11, "move", "(Z)I"⟩
abbrev cX11_letGo : ByteArray := prog_13_method_40_code
def yX11_letGo : MethodName := ⟨RX11, "letGo", "(I)I"⟩
abbrev cX11_call : ByteArray := prog_13_method_41_code
def yX11_call : MethodName := ⟨RX11, "call", "(II)I"⟩
abbrev cX11_layChoices : ByteArray := prog_13_method_42_code
def yX11_layChoices : MethodName := ⟨RX11, "layChoices", "(I)V"⟩
abbrev cX11_isFree : ByteArray := prog_13_method_43_code
def yX11_isFree : MethodName := ⟨RX11, "isFree", "(II)Z"⟩
abbrev cX11_layMost : ByteArray := prog_13_method_44_code
def yX11_layMost : MethodName := ⟨RX11, "layMost", "(I)I"⟩
abbrev cX11_mostOf : ByteArray := prog_13_method_45_code
def yX11_mostOf : MethodName := ⟨RX11, "mostOf", "(I)I"⟩
abbrev cX11_most : ByteArray := prog_13_method_46_code
def yX11_most : MethodName := ⟨RX11, "most", "(I)I"⟩
abbrev cX11_fill : ByteArray := prog_13_method_47_code
def yX11_fill : MethodName := ⟨RX11, "fill", "()I"⟩
abbrev cX11_fewestOf : ByteArray := prog_13_method_48_code
def yX11_fewestOf : MethodName := ⟨RX11, "fewestOf", "(I)I"⟩
abbrev cX11_fewest : ByteArray := prog_13_method_49_code
def yX11_fewest : MethodName := ⟨RX11, "fewest", "(I)I"⟩
abbrev cX11_spareOf : ByteArray := prog_13_method_50_code
def yX11_spareOf : MethodName := ⟨RX11, "spareOf", "()I"⟩
abbrev cX11_spare : ByteArray := prog_13_method_51_code
def yX11_spare : MethodName := ⟨RX11, "spare", "()I"⟩
abbrev cX11_wantsAt : ByteArray := prog_13_method_52_code
def yX11_wantsAt : MethodName := ⟨RX11, "wantsAt", "(I)I"⟩
abbrev cX11_wants : ByteArray := prog_13_method_53_code
def yX11_wants : MethodName := ⟨RX11, "wants", "(I)I"⟩
abbrev cX11_bound : ByteArray := prog_13_method_54_code
def yX11_bound : MethodName := ⟨RX11, "bound", "()I"⟩
abbrev cX11_isThrough : ByteArray := prog_13_method_55_code
def yX11_isThrough : MethodName := ⟨RX11, "isThrough", "(III)Z"⟩
abbrev cX11_routeOf : ByteArray := prog_13_method_56_code
def yX11_routeOf : MethodName := ⟨RX11, "routeOf", "(II)I"⟩
abbrev cX11_route : ByteArray := prog_13_method_57_code
def yX11_route : MethodName := ⟨RX11, "route", "(II)I"⟩
abbrev cX11_see : ByteArray := prog_13_method_58_code
def yX11_see : MethodName := ⟨RX11, "see", "(IIZ)I"⟩
abbrev cX11_forget : ByteArray := prog_13_method_59_code
def yX11_forget : MethodName := ⟨RX11, "forget", "()I"⟩
abbrev cX11_strongsOf : ByteArray := prog_13_method_60_code
def yX11_strongsOf : MethodName := ⟨RX11, "strongsOf", "(I)I"⟩
abbrev cX11_tryOf : ByteArray := prog_13_method_61_code
def yX11_tryOf : MethodName := ⟨RX11, "tryOf", "(I)I"⟩
abbrev cX11_draw : ByteArray := prog_13_method_62_code
def yX11_draw : MethodName := ⟨RX11, "draw", "(I)I"⟩
abbrev cX11_takesLine : ByteArray := prog_13_method_63_code
def yX11_takesLine : MethodName := ⟨RX11, "takesLine", "(I)Z"⟩
abbrev cX11_letLineGo : ByteArray := prog_13_method_64_code
def yX11_letLineGo : MethodName := ⟨RX11, "letLineGo", "()I"⟩
abbrev cX11_tours : ByteArray := prog_13_method_65_code
def yX11_tours : MethodName := ⟨RX11, "tours", "(III)I"⟩
abbrev cX11_image : ByteArray := prog_13_method_66_code
def yX11_image : MethodName := ⟨RX11, "image", "()I"⟩
abbrev cX11_restore : ByteArray := prog_13_method_67_code
def yX11_restore : MethodName := ⟨RX11, "restore", "()I"⟩
abbrev cX11_countOf : ByteArray := prog_13_method_68_code
def yX11_countOf : MethodName := ⟨RX11, "countOf", "(I)I"⟩
abbrev cX11_countMore : ByteArray := prog_13_method_69_code
def yX11_countMore : MethodName := ⟨RX11, "countMore", "(I)I"⟩
abbrev cX11_count : ByteArray := prog_13_method_70_code
def yX11_count : MethodName := ⟨RX11, "count", "(I)I"⟩
abbrev cX11_say : ByteArray := prog_13_method_71_code
def yX11_say : MethodName := ⟨RX11, "say", "(J)V"⟩
abbrev cX11_digest : ByteArray := prog_13_method_72_code
def yX11_digest : MethodName := ⟨RX11, "digest", "()J"⟩
def RJx145de : String := "java/io/Serializable"
def TJx145de : u_T := fun k => match k with
  | _ => ("", "", "", false)
def tyJx145de : Nat → FieldType := fun k => match k with
  | _ => .int
abbrev wsJx145de0 : List Cond := u_ws RJx145de TJx145de 0
theorem nmJx145de : ∀ a, a < 0 → ∀ b, b < 0 → a ≠ b → (TJx145de a).2.1 ≠ (TJx145de b).2.1 := by decide +kernel
theorem tyJx145de_ok : ∀ k, k < 0 → parseFieldDescriptor (TJx145de k).2.2.1 = some (tyJx145de k) := by decide +kernel
def RJx9f9b0 : String := "java/lang/CharSequence"
def TJx9f9b0 : u_T := fun k => match k with
  | _ => ("", "", "", false)
def tyJx9f9b0 : Nat → FieldType := fun k => match k with
  | _ => .int
abbrev wsJx9f9b00 : List Cond := u_ws RJx9f9b0 TJx9f9b0 0
theorem nmJx9f9b0 : ∀ a, a < 0 → ∀ b, b < 0 → a ≠ b → (TJx9f9b0 a).2.1 ≠ (TJx9f9b0 b).2.1 := by decide +kernel
theorem tyJx9f9b0_ok : ∀ k, k < 0 → parseFieldDescriptor (TJx9f9b0 k).2.2.1 = some (tyJx9f9b0 k) := by decide +kernel
def RJ11 : String := "java/lang/Character"
def TJ11 : u_T := fun k => match k with
  | _ => ("", "", "", false)
def tyJ11 : Nat → FieldType := fun k => match k with
  | _ => .int
abbrev wsJ110 : List Cond := u_ws RJ11 TJ11 0
theorem nmJ11 : ∀ a, a < 0 → ∀ b, b < 0 → a ≠ b → (TJ11 a).2.1 ≠ (TJ11 b).2.1 := by decide +kernel
theorem tyJ11_ok : ∀ k, k < 0 → parseFieldDescriptor (TJ11 k).2.2.1 = some (tyJ11 k) := by decide +kernel
abbrev cJ11_isValidCodePoint_9a6ad : ByteArray := prog_14_method_11_code
def yJ11_isValidCodePoint_9a6ad : MethodName := ⟨RJ11, "isValidCodePoint", "(I)Z"⟩
abbrev cJ11_highSurrogate_5068e : ByteArray := prog_14_method_28_code
def yJ11_highSurrogate_5068e : MethodName := ⟨RJ11, "highSurrogate", "(I)C"⟩
abbrev cJ11_lowSurrogate_5068e : ByteArray := prog_14_method_29_code
def yJ11_lowSurrogate_5068e : MethodName := ⟨RJ11, "lowSurrogate", "(I)C"⟩
def RJxb160c : String := "java/lang/Comparable"
def TJxb160c : u_T := fun k => match k with
  | _ => ("", "", "", false)
def tyJxb160c : Nat → FieldType := fun k => match k with
  | _ => .int
abbrev wsJxb160c0 : List Cond := u_ws RJxb160c TJxb160c 0
theorem nmJxb160c : ∀ a, a < 0 → ∀ b, b < 0 → a ≠ b → (TJxb160c a).2.1 ≠ (TJxb160c b).2.1 := by decide +kernel
theorem tyJxb160c_ok : ∀ k, k < 0 → parseFieldDescriptor (TJxb160c k).2.2.1 = some (tyJxb160c k) := by decide +kernel
def RJ6 : String := "java/lang/Integer"
def TJ6 : u_T := fun k => match k with
  | _ => ("", "", "", false)
def tyJ6 : Nat → FieldType := fun k => match k with
  | _ => .int
abbrev wsJ60 : List Cond := u_ws RJ6 TJ6 0
theorem nmJ6 : ∀ a, a < 0 → ∀ b, b < 0 → a ≠ b → (TJ6 a).2.1 ≠ (TJ6 b).2.1 := by decide +kernel
theorem tyJ6_ok : ∀ k, k < 0 → parseFieldDescriptor (TJ6 k).2.2.1 = some (tyJ6 k) := by decide +kernel
abbrev cJ6_bitCount_0f7a4 : ByteArray := prog_15_method_49_code
def yJ6_bitCount_0f7a4 : MethodName := ⟨RJ6, "bitCount", "(I)I"⟩
def RJ9 : String := "java/lang/Math"
def TJ9 : u_T := fun k => match k with
  | _ => ("", "", "", false)
def tyJ9 : Nat → FieldType := fun k => match k with
  | _ => .int
abbrev wsJ90 : List Cond := u_ws RJ9 TJ9 0
theorem nmJ9 : ∀ a, a < 0 → ∀ b, b < 0 → a ≠ b → (TJ9 a).2.1 ≠ (TJ9 b).2.1 := by decide +kernel
theorem tyJ9_ok : ∀ k, k < 0 → parseFieldDescriptor (TJ9 k).2.2.1 = some (tyJ9 k) := by decide +kernel
abbrev cJ9_floorMod_7cf53 : ByteArray := prog_16_method_50_code
def yJ9_floorMod_7cf53 : MethodName := ⟨RJ9, "floorMod", "(II)I"⟩
abbrev cJ9_max_7cf53 : ByteArray := prog_16_method_65_code
def yJ9_max_7cf53 : MethodName := ⟨RJ9, "max", "(II)I"⟩
abbrev cJ9_min_7cf53 : ByteArray := prog_16_method_69_code
def yJ9_min_7cf53 : MethodName := ⟨RJ9, "min", "(II)I"⟩
def RJ0 : String := "java/lang/String"
def TJ0 : u_T := fun k => match k with
  | _ => ("", "", "", false)
def tyJ0 : Nat → FieldType := fun k => match k with
  | _ => .int
abbrev wsJ00 : List Cond := u_ws RJ0 TJ0 0
theorem nmJ0 : ∀ a, a < 0 → ∀ b, b < 0 → a ≠ b → (TJ0 a).2.1 ≠ (TJ0 b).2.1 := by decide +kernel
theorem tyJ0_ok : ∀ k, k < 0 → parseFieldDescriptor (TJ0 k).2.2.1 = some (tyJ0 k) := by decide +kernel
abbrev cJ0_length_8abf5 : ByteArray := prog_17_method_54_code
def yJ0_length_8abf5 : MethodName := ⟨RJ0, "length", "()I"⟩
abbrev cJ0_indexOf_0f7a4 : ByteArray := prog_17_method_79_code
def yJ0_indexOf_0f7a4 : MethodName := ⟨RJ0, "indexOf", "(I)I"⟩
abbrev cJ0_indexOf_7cf53 : ByteArray := prog_17_method_80_code
def yJ0_indexOf_7cf53 : MethodName := ⟨RJ0, "indexOf", "(II)I"⟩
abbrev cJ0_coder_7d493 : ByteArray := prog_17_method_152_code
def yJ0_coder_7d493 : MethodName := ⟨RJ0, "coder", "()B"⟩
abbrev cJ0_isLatin1_aae02 : ByteArray := prog_17_method_154_code
def yJ0_isLatin1_aae02 : MethodName := ⟨RJ0, "isLatin1", "()Z"⟩
abbrev cJ0_checkBoundsBeginEnd_23922 : ByteArray := prog_17_method_158_code
def yJ0_checkBoundsBeginEnd_23922 : MethodName := ⟨RJ0, "checkBoundsBeginEnd", "(III)V"⟩
def RJ1 : String := "java/lang/StringLatin1"
def TJ1 : u_T := fun k => match k with
  | _ => ("", "", "", false)
def tyJ1 : Nat → FieldType := fun k => match k with
  | _ => .int
abbrev wsJ10 : List Cond := u_ws RJ1 TJ1 0
theorem nmJ1 : ∀ a, a < 0 → ∀ b, b < 0 → a ≠ b → (TJ1 a).2.1 ≠ (TJ1 b).2.1 := by decide +kernel
theorem tyJ1_ok : ∀ k, k < 0 → parseFieldDescriptor (TJ1 k).2.2.1 = some (tyJ1 k) := by decide +kernel
abbrev cJ1_canEncode_9a6ad : ByteArray := prog_18_method_4_code
def yJ1_canEncode_9a6ad : MethodName := ⟨RJ1, "canEncode", "(I)Z"⟩
abbrev cJ1_indexOf_4cfef : ByteArray := prog_18_method_22_code
def yJ1_indexOf_4cfef : MethodName := ⟨RJ1, "indexOf", "([BIII)I"⟩
abbrev cJ1_indexOfChar_4cfef : ByteArray := prog_18_method_23_code
def yJ1_indexOfChar_4cfef : MethodName := ⟨RJ1, "indexOfChar", "([BIII)I"⟩
def RJ2 : String := "java/lang/StringUTF16"
def TJ2 : u_T := fun k => match k with
  | _ => ("", "", "", false)
def tyJ2 : Nat → FieldType := fun k => match k with
  | _ => .int
abbrev wsJ20 : List Cond := u_ws RJ2 TJ2 0
theorem nmJ2 : ∀ a, a < 0 → ∀ b, b < 0 → a ≠ b → (TJ2 a).2.1 ≠ (TJ2 b).2.1 := by decide +kernel
theorem tyJ2_ok : ∀ k, k < 0 → parseFieldDescriptor (TJ2 k).2.2.1 = some (tyJ2 k) := by decide +kernel
abbrev cJ2_getChar_3b067 : ByteArray := prog_19_method_5_code
def yJ2_getChar_3b067 : MethodName := ⟨RJ2, "getChar", "([BI)C"⟩
abbrev cJ2_length_9d52b : ByteArray := prog_19_method_6_code
def yJ2_length_9d52b : MethodName := ⟨RJ2, "length", "([B)I"⟩
abbrev cJ2_indexOf_4cfef : ByteArray := prog_19_method_40_code
def yJ2_indexOf_4cfef : MethodName := ⟨RJ2, "indexOf", "([BIII)I"⟩
abbrev cJ2_indexOfChar_4cfef : ByteArray := prog_19_method_47_code
def yJ2_indexOfChar_4cfef : MethodName := ⟨RJ2, "indexOfChar", "([BIII)I"⟩
abbrev cJ2_indexOfCharUnsafe_4cfef : ByteArray := prog_19_method_48_code
def yJ2_indexOfCharUnsafe_4cfef : MethodName := ⟨RJ2, "indexOfCharUnsafe", "([BIII)I"⟩
abbrev cJ2_indexOfSupplementary_4cfef : ByteArray := prog_19_method_49_code
def yJ2_indexOfSupplementary_4cfef : MethodName := ⟨RJ2, "indexOfSupplementary", "([BIII)I"⟩
abbrev cJ2_checkBoundsBeginEnd_d044e : ByteArray := prog_19_method_93_code
def yJ2_checkBoundsBeginEnd_d044e : MethodName := ⟨RJ2, "checkBoundsBeginEnd", "(II[B)V"⟩
def RJ10 : String := "java/lang/System"
def TJ10 : u_T := fun k => match k with
  | _ => ("", "", "", false)
def tyJ10 : Nat → FieldType := fun k => match k with
  | _ => .int
abbrev wsJ100 : List Cond := u_ws RJ10 TJ10 0
theorem nmJ10 : ∀ a, a < 0 → ∀ b, b < 0 → a ≠ b → (TJ10 a).2.1 ≠ (TJ10 b).2.1 := by decide +kernel
theorem tyJ10_ok : ∀ k, k < 0 → parseFieldDescriptor (TJ10 k).2.2.1 = some (tyJ10 k) := by decide +kernel
def RJxfd54e : String := "java/lang/constant/Constable"
def TJxfd54e : u_T := fun k => match k with
  | _ => ("", "", "", false)
def tyJxfd54e : Nat → FieldType := fun k => match k with
  | _ => .int
abbrev wsJxfd54e0 : List Cond := u_ws RJxfd54e TJxfd54e 0
theorem nmJxfd54e : ∀ a, a < 0 → ∀ b, b < 0 → a ≠ b → (TJxfd54e a).2.1 ≠ (TJxfd54e b).2.1 := by decide +kernel
theorem tyJxfd54e_ok : ∀ k, k < 0 → parseFieldDescriptor (TJxfd54e k).2.2.1 = some (tyJxfd54e k) := by decide +kernel
def RJx3cf43 : String := "java/lang/constant/ConstantDesc"
def TJx3cf43 : u_T := fun k => match k with
  | _ => ("", "", "", false)
def tyJx3cf43 : Nat → FieldType := fun k => match k with
  | _ => .int
abbrev wsJx3cf430 : List Cond := u_ws RJx3cf43 TJx3cf43 0
theorem nmJx3cf43 : ∀ a, a < 0 → ∀ b, b < 0 → a ≠ b → (TJx3cf43 a).2.1 ≠ (TJx3cf43 b).2.1 := by decide +kernel
theorem tyJx3cf43_ok : ∀ k, k < 0 → parseFieldDescriptor (TJx3cf43 k).2.2.1 = some (tyJx3cf43 k) := by decide +kernel
def RJ7 : String := "java/util/Arrays"
def TJ7 : u_T := fun k => match k with
  | _ => ("", "", "", false)
def tyJ7 : Nat → FieldType := fun k => match k with
  | _ => .int
abbrev wsJ70 : List Cond := u_ws RJ7 TJ7 0
theorem nmJ7 : ∀ a, a < 0 → ∀ b, b < 0 → a ≠ b → (TJ7 a).2.1 ≠ (TJ7 b).2.1 := by decide +kernel
theorem tyJ7_ok : ∀ k, k < 0 → parseFieldDescriptor (TJ7 k).2.2.1 = some (tyJ7 k) := by decide +kernel
abbrev cJ7_fill_53178 : ByteArray := prog_21_method_103_code
def yJ7_fill_53178 : MethodName := ⟨RJ7, "fill", "([II)V"⟩
def RJ3 : String := "jdk/internal/util/Preconditions"
def TJ3 : u_T := fun k => match k with
  | _ => ("", "", "", false)
def tyJ3 : Nat → FieldType := fun k => match k with
  | _ => .int
abbrev wsJ30 : List Cond := u_ws RJ3 TJ3 0
theorem nmJ3 : ∀ a, a < 0 → ∀ b, b < 0 → a ≠ b → (TJ3 a).2.1 ≠ (TJ3 b).2.1 := by decide +kernel
theorem tyJ3_ok : ∀ k, k < 0 → parseFieldDescriptor (TJ3 k).2.2.1 = some (tyJ3 k) := by decide +kernel
abbrev cJ3_checkFromToIndex_8c36e : ByteArray := prog_22_method_12_code
def yJ3_checkFromToIndex_8c36e : MethodName := ⟨RJ3, "checkFromToIndex", "(IIILjava/util/function/BiFunction;)I"⟩
def RL : String := "KeptVolunteersLaw"
abbrev cL_law : ByteArray := code
def yL_law : MethodName := ⟨RL, "law", "([I)Z"⟩
abbrev vwCl : List vw_C := [(RX0, TX0, 2), (RX1, TX1, 3), (RX2, TX2, 2), (RX3, TX3, 3), (RX4, TX4, 8), (RX5, TX5, 3), (RX6, TX6, 3), (RX7, TX7, 6), (RX8, TX8, 3), (RX9, TX9, 14), (RX10, TX10, 11), (RX11, TX11, 42)]
end
section
/-! THE WORDS of the tables, each by its place -/
def kv_W : List Cond := lw_tbl.filter goodWord
theorem kv_W_good {w : Cond} (h : w ∈ kv_W) : w ∈ lw_tbl ∧ goodWord w = true := List.mem_filter.mp h
theorem kv_s {i : Nat} {w : Cond} (h : (k2_sels lw_privs)[i]? = some w) (g : goodWord w = true) : w ∈ kv_W := List.mem_filter.mpr ⟨List.mem_append_left _ (List.mem_of_getElem? h), g⟩
theorem kv_t1 {i : Nat} {w : Cond} (h : tables_1_1[i]? = some w) (g : goodWord w = true) : w ∈ kv_W := List.mem_filter.mpr ⟨List.mem_append_right _ (List.mem_append_left _ (List.mem_of_getElem? h)), g⟩
theorem kv_t2 {i : Nat} {w : Cond} (h : tables_1_2[i]? = some w) (g : goodWord w = true) : w ∈ kv_W := List.mem_filter.mpr ⟨List.mem_append_right _ (List.mem_append_right _ (List.mem_append_left _ (List.mem_of_getElem? h))), g⟩
theorem kv_t3 {i : Nat} {w : Cond} (h : tables_1_3[i]? = some w) (g : goodWord w = true) : w ∈ kv_W := List.mem_filter.mpr ⟨List.mem_append_right _ (List.mem_append_right _ (List.mem_append_right _ (List.mem_append_left _ (List.mem_of_getElem? h)))), g⟩
theorem kv_t4 {i : Nat} {w : Cond} (h : tables_1_4[i]? = some w) (g : goodWord w = true) : w ∈ kv_W := List.mem_filter.mpr ⟨List.mem_append_right _ (List.mem_append_right _ (List.mem_append_right _ (List.mem_append_right _ (List.mem_append_left _ (List.mem_of_getElem? h))))), g⟩
theorem kv_t5 {i : Nat} {w : Cond} (h : tables_1_5[i]? = some w) (g : goodWord w = true) : w ∈ kv_W := List.mem_filter.mpr ⟨List.mem_append_right _ (List.mem_append_right _ (List.mem_append_right _ (List.mem_append_right _ (List.mem_append_right _ (List.mem_append_left _ (List.mem_of_getElem? h)))))), g⟩
theorem kv_t6 {i : Nat} {w : Cond} (h : tables_1_6[i]? = some w) (g : goodWord w = true) : w ∈ kv_W := List.mem_filter.mpr ⟨List.mem_append_right _ (List.mem_append_right _ (List.mem_append_right _ (List.mem_append_right _ (List.mem_append_right _ (List.mem_append_right _ (List.mem_of_getElem? h)))))), g⟩
theorem kw1_0 : (Jvm.Cond.initialized "KeptVolunteersLaw") ∈ kv_W := kv_t1 (i := 0) (by decide +kernel) (by decide +kernel)
theorem kw1_1 : (Jvm.Cond.initialized "KeptVolunteers") ∈ kv_W := kv_t1 (i := 1) (by decide +kernel) (by decide +kernel)
theorem kw1_2 : (Jvm.Cond.initialized "KeptVolunteers$Page") ∈ kv_W := kv_t1 (i := 2) (by decide +kernel) (by decide +kernel)
theorem kw1_3 : (Jvm.Cond.initialized "KeptVolunteers$Troupe") ∈ kv_W := kv_t1 (i := 3) (by decide +kernel) (by decide +kernel)
theorem kw1_4 : (Jvm.Cond.initialized "KeptVolunteers$Planner") ∈ kv_W := kv_t1 (i := 4) (by decide +kernel) (by decide +kernel)
theorem kw1_5 : (Jvm.Cond.initialized "KeptVolunteers$Tour") ∈ kv_W := kv_t1 (i := 5) (by decide +kernel) (by decide +kernel)
theorem kw1_6 : (Jvm.Cond.initialized "KeptVolunteers$Bill") ∈ kv_W := kv_t1 (i := 6) (by decide +kernel) (by decide +kernel)
theorem kw1_7 : (Jvm.Cond.initialized "KeptVolunteersModel") ∈ kv_W := kv_t1 (i := 7) (by decide +kernel) (by decide +kernel)
theorem kw1_8 : (Jvm.Cond.initialized "java/lang/String") ∈ kv_W := kv_t1 (i := 8) (by decide +kernel) (by decide +kernel)
theorem kw1_9 : (Jvm.Cond.initialized "java/lang/StringLatin1") ∈ kv_W := kv_t1 (i := 9) (by decide +kernel) (by decide +kernel)
theorem kw1_10 : (Jvm.Cond.initialized "java/lang/Math") ∈ kv_W := kv_t1 (i := 10) (by decide +kernel) (by decide +kernel)
theorem kw1_11 : (Jvm.Cond.initialized "java/lang/StringUTF16") ∈ kv_W := kv_t1 (i := 11) (by decide +kernel) (by decide +kernel)
theorem kw1_12 : (Jvm.Cond.initialized "jdk/internal/util/Preconditions") ∈ kv_W := kv_t1 (i := 12) (by decide +kernel) (by decide +kernel)
theorem kw1_13 : (Jvm.Cond.initialized "java/lang/Character") ∈ kv_W := kv_t1 (i := 13) (by decide +kernel) (by decide +kernel)
theorem kw1_14 : (Jvm.Cond.initialized "KeptVolunteers$Trick") ∈ kv_W := kv_t1 (i := 14) (by decide +kernel) (by decide +kernel)
theorem kw1_15 : (Jvm.Cond.initialized "KeptVolunteers$Pair") ∈ kv_W := kv_t1 (i := 15) (by decide +kernel) (by decide +kernel)
theorem kw1_16 : (Jvm.Cond.initialized "KeptVolunteers$Saw") ∈ kv_W := kv_t1 (i := 16) (by decide +kernel) (by decide +kernel)
theorem kw1_17 : (Jvm.Cond.initialized "KeptVolunteers$LongTrick") ∈ kv_W := kv_t1 (i := 17) (by decide +kernel) (by decide +kernel)
theorem kw1_18 : (Jvm.Cond.initialized "KeptVolunteers$Rope") ∈ kv_W := kv_t1 (i := 18) (by decide +kernel) (by decide +kernel)
theorem kw1_19 : (Jvm.Cond.initialized "java/util/Arrays") ∈ kv_W := kv_t1 (i := 19) (by decide +kernel) (by decide +kernel)
theorem kw1_20 : (Jvm.Cond.initialized "java/lang/Integer") ∈ kv_W := kv_t1 (i := 20) (by decide +kernel) (by decide +kernel)
theorem kw1_21 : (Jvm.Cond.initialized "java/lang/System") ∈ kv_W := kv_t1 (i := 21) (by decide +kernel) (by decide +kernel)
theorem kw1_22 : (Jvm.Cond.classLink "KeptVolunteersLaw" (7 : Nat) "KeptVolunteers") ∈ kv_W := kv_t1 (i := 22) (by decide +kernel) (by decide +kernel)
theorem kw1_23 : (Jvm.Cond.instantiable "KeptVolunteers" (11 : Nat)) ∈ kv_W := kv_t1 (i := 23) (by decide +kernel) (by decide +kernel)
theorem kw1_24 : (Jvm.Cond.methodLink "KeptVolunteersLaw" (9 : Nat) ({ cls := "KeptVolunteers", name := "<init>", desc := "()V" } : Jvm.MethodName)) ∈ kv_W := kv_t1 (i := 24) (by decide +kernel) (by decide +kernel)
theorem kw1_25 : (Jvm.Cond.instanceMethod ({ cls := "KeptVolunteers", name := "<init>", desc := "()V" } : Jvm.MethodName)) ∈ kv_W := kv_t1 (i := 25) (by decide +kernel) (by decide +kernel)
theorem kw1_26 : (Jvm.Cond.code ({ cls := "KeptVolunteers", name := "<init>", desc := "()V" } : Jvm.MethodName) prog_1_method_1_code (1 : Nat) (Option.none : Option Jvm.ClassFile.FieldType)) ∈ kv_W := kv_t1 (i := 26) (by decide +kernel) (by decide +kernel)
theorem kw1_27 : (Jvm.Cond.methodLink "KeptVolunteers" (1 : Nat) ({ cls := "java/lang/Object", name := "<init>", desc := "()V" } : Jvm.MethodName)) ∈ kv_W := kv_t1 (i := 27) (by decide +kernel) (by decide +kernel)
theorem kw1_28 : (Jvm.Cond.instanceMethod ({ cls := "java/lang/Object", name := "<init>", desc := "()V" } : Jvm.MethodName)) ∈ kv_W := kv_t1 (i := 28) (by decide +kernel) (by decide +kernel)
theorem kw1_29 : (Jvm.Cond.code ({ cls := "java/lang/Object", name := "<init>", desc := "()V" } : Jvm.MethodName) object_method_1_code (1 : Nat) (Option.none : Option Jvm.ClassFile.FieldType)) ∈ kv_W := kv_t1 (i := 29) (by decide +kernel) (by decide +kernel)
theorem kw1_30 : (Jvm.Cond.classLink "KeptVolunteers" (7 : Nat) "KeptVolunteers$Page") ∈ kv_W := kv_t1 (i := 30) (by decide +kernel) (by decide +kernel)
theorem kw1_31 : (Jvm.Cond.instantiable "KeptVolunteers$Page" (2 : Nat)) ∈ kv_W := kv_t1 (i := 31) (by decide +kernel) (by decide +kernel)
theorem kw1_33 : (Jvm.Cond.instanceMethod ({ cls := "KeptVolunteers$Page", name := "<init>", desc := "()V" } : Jvm.MethodName)) ∈ kv_W := kv_t1 (i := 33) (by decide +kernel) (by decide +kernel)
theorem kw1_34 : (Jvm.Cond.code ({ cls := "KeptVolunteers$Page", name := "<init>", desc := "()V" } : Jvm.MethodName) prog_4_method_1_code (1 : Nat) (Option.none : Option Jvm.ClassFile.FieldType)) ∈ kv_W := kv_t1 (i := 34) (by decide +kernel) (by decide +kernel)
theorem kw1_35 : (Jvm.Cond.methodLink "KeptVolunteers$Page" (3 : Nat) ({ cls := "java/lang/Object", name := "<init>", desc := "()V" } : Jvm.MethodName)) ∈ kv_W := kv_t1 (i := 35) (by decide +kernel) (by decide +kernel)
theorem kw1_36 : (Jvm.Cond.fieldLink "KeptVolunteers$Page" (9 : Nat) "KeptVolunteers$Page" "codes" "[I") ∈ kv_W := kv_t1 (i := 36) (by decide +kernel) (by decide +kernel)
theorem kw1_37 : (Jvm.Cond.fieldLink "KeptVolunteers" (278 : Nat) "KeptVolunteers$Page" "codes" "[I") ∈ kv_W := kv_t1 (i := 37) (by decide +kernel) (by decide +kernel)
theorem kw1_38 : (Jvm.Cond.fieldLink "KeptVolunteers$Page" (15 : Nat) "KeptVolunteers$Page" "size" "I") ∈ kv_W := kv_t1 (i := 38) (by decide +kernel) (by decide +kernel)
theorem kw1_39 : (Jvm.Cond.fieldLink "KeptVolunteers" (55 : Nat) "KeptVolunteers$Page" "size" "I") ∈ kv_W := kv_t1 (i := 39) (by decide +kernel) (by decide +kernel)
theorem kw1_40 : (Jvm.Cond.laysFinal "KeptVolunteers$Page" "KeptVolunteers$Page" "codes" "[I") ∈ kv_W := kv_t1 (i := 40) (by decide +kernel) (by decide +kernel)
theorem kw1_42 : (Jvm.Cond.lays "KeptVolunteers$Page" "KeptVolunteers$Page" "size" "I") ∈ kv_W := kv_t1 (i := 42) (by decide +kernel) (by decide +kernel)
theorem kw1_45 : (Jvm.Cond.arrayClass Jvm.ClassFile.FieldType.int) ∈ kv_W := kv_t1 (i := 45) (by decide +kernel) (by decide +kernel)
theorem kw1_46 : (Jvm.Cond.classLink "KeptVolunteers" (16 : Nat) "KeptVolunteers$Troupe") ∈ kv_W := kv_t1 (i := 46) (by decide +kernel) (by decide +kernel)
theorem kw1_47 : (Jvm.Cond.instantiable "KeptVolunteers$Troupe" (14 : Nat)) ∈ kv_W := kv_t1 (i := 47) (by decide +kernel) (by decide +kernel)
theorem kw1_49 : (Jvm.Cond.instanceMethod ({ cls := "KeptVolunteers$Troupe", name := "<init>", desc := "()V" } : Jvm.MethodName)) ∈ kv_W := kv_t1 (i := 49) (by decide +kernel) (by decide +kernel)
theorem kw1_50 : (Jvm.Cond.code ({ cls := "KeptVolunteers$Troupe", name := "<init>", desc := "()V" } : Jvm.MethodName) prog_11_method_1_code (1 : Nat) (Option.none : Option Jvm.ClassFile.FieldType)) ∈ kv_W := kv_t1 (i := 50) (by decide +kernel) (by decide +kernel)
theorem kw1_51 : (Jvm.Cond.methodLink "KeptVolunteers$Troupe" (3 : Nat) ({ cls := "java/lang/Object", name := "<init>", desc := "()V" } : Jvm.MethodName)) ∈ kv_W := kv_t1 (i := 51) (by decide +kernel) (by decide +kernel)
theorem kw1_52 : (Jvm.Cond.fieldLink "KeptVolunteers$Troupe" (9 : Nat) "KeptVolunteers$Troupe" "strong" "[I") ∈ kv_W := kv_t1 (i := 52) (by decide +kernel) (by decide +kernel)
theorem kw1_53 : (Jvm.Cond.fieldLink "KeptVolunteers" (136 : Nat) "KeptVolunteers$Troupe" "strong" "[I") ∈ kv_W := kv_t1 (i := 53) (by decide +kernel) (by decide +kernel)
theorem kw1_54 : (Jvm.Cond.fieldLink "KeptVolunteers$Page" (87 : Nat) "KeptVolunteers$Troupe" "strong" "[I") ∈ kv_W := kv_t1 (i := 54) (by decide +kernel) (by decide +kernel)
theorem kw1_55 : (Jvm.Cond.fieldLink "KeptVolunteers$Troupe" (15 : Nat) "KeptVolunteers$Troupe" "town" "[I") ∈ kv_W := kv_t1 (i := 55) (by decide +kernel) (by decide +kernel)
theorem kw1_56 : (Jvm.Cond.fieldLink "KeptVolunteers" (139 : Nat) "KeptVolunteers$Troupe" "town" "[I") ∈ kv_W := kv_t1 (i := 56) (by decide +kernel) (by decide +kernel)
theorem kw1_57 : (Jvm.Cond.fieldLink "KeptVolunteers$Page" (90 : Nat) "KeptVolunteers$Troupe" "town" "[I") ∈ kv_W := kv_t1 (i := 57) (by decide +kernel) (by decide +kernel)
theorem kw1_58 : (Jvm.Cond.fieldLink "KeptVolunteers$Troupe" (18 : Nat) "KeptVolunteers$Troupe" "held" "[I") ∈ kv_W := kv_t1 (i := 58) (by decide +kernel) (by decide +kernel)
theorem kw1_59 : (Jvm.Cond.fieldLink "KeptVolunteers" (148 : Nat) "KeptVolunteers$Troupe" "held" "[I") ∈ kv_W := kv_t1 (i := 59) (by decide +kernel) (by decide +kernel)
theorem kw1_60 : (Jvm.Cond.fieldLink "KeptVolunteers$Troupe" (21 : Nat) "KeptVolunteers$Troupe" "casting" "[I") ∈ kv_W := kv_t1 (i := 60) (by decide +kernel) (by decide +kernel)
theorem kw1_61 : (Jvm.Cond.fieldLink "KeptVolunteers" (107 : Nat) "KeptVolunteers$Troupe" "casting" "[I") ∈ kv_W := kv_t1 (i := 61) (by decide +kernel) (by decide +kernel)
theorem kw1_62 : (Jvm.Cond.fieldLink "KeptVolunteers$Troupe" (24 : Nat) "KeptVolunteers$Troupe" "seenOf" "[I") ∈ kv_W := kv_t1 (i := 62) (by decide +kernel) (by decide +kernel)
theorem kw1_63 : (Jvm.Cond.fieldLink "KeptVolunteers$Troupe" (27 : Nat) "KeptVolunteers$Troupe" "seenStrongs" "[I") ∈ kv_W := kv_t1 (i := 63) (by decide +kernel) (by decide +kernel)
theorem kw1_64 : (Jvm.Cond.fieldLink "KeptVolunteers$Troupe" (36 : Nat) "KeptVolunteers$Troupe" "kept" "I") ∈ kv_W := kv_t1 (i := 64) (by decide +kernel) (by decide +kernel)
theorem kw1_65 : (Jvm.Cond.fieldLink "KeptVolunteers" (129 : Nat) "KeptVolunteers$Troupe" "kept" "I") ∈ kv_W := kv_t1 (i := 65) (by decide +kernel) (by decide +kernel)
theorem kw1_66 : (Jvm.Cond.fieldLink "KeptVolunteers$Troupe" (40 : Nat) "KeptVolunteers$Troupe" "here" "I") ∈ kv_W := kv_t1 (i := 66) (by decide +kernel) (by decide +kernel)
theorem kw1_67 : (Jvm.Cond.fieldLink "KeptVolunteers" (187 : Nat) "KeptVolunteers$Troupe" "here" "I") ∈ kv_W := kv_t1 (i := 67) (by decide +kernel) (by decide +kernel)
theorem kw1_68 : (Jvm.Cond.fieldLink "KeptVolunteers$Troupe" (43 : Nat) "KeptVolunteers$Troupe" "nights" "I") ∈ kv_W := kv_t1 (i := 68) (by decide +kernel) (by decide +kernel)
theorem kw1_69 : (Jvm.Cond.fieldLink "KeptVolunteers" (177 : Nat) "KeptVolunteers$Troupe" "nights" "I") ∈ kv_W := kv_t1 (i := 69) (by decide +kernel) (by decide +kernel)
theorem kw1_70 : (Jvm.Cond.fieldLink "KeptVolunteers$Troupe" (46 : Nat) "KeptVolunteers$Troupe" "doneOnNights" "I") ∈ kv_W := kv_t1 (i := 70) (by decide +kernel) (by decide +kernel)
theorem kw1_71 : (Jvm.Cond.fieldLink "KeptVolunteers" (184 : Nat) "KeptVolunteers$Troupe" "doneOnNights" "I") ∈ kv_W := kv_t1 (i := 71) (by decide +kernel) (by decide +kernel)
theorem kw1_72 : (Jvm.Cond.fieldLink "KeptVolunteers$Troupe" (49 : Nat) "KeptVolunteers$Troupe" "moves" "I") ∈ kv_W := kv_t1 (i := 72) (by decide +kernel) (by decide +kernel)
theorem kw1_73 : (Jvm.Cond.fieldLink "KeptVolunteers" (196 : Nat) "KeptVolunteers$Troupe" "moves" "I") ∈ kv_W := kv_t1 (i := 73) (by decide +kernel) (by decide +kernel)
theorem kw1_74 : (Jvm.Cond.fieldLink "KeptVolunteers$Troupe" (52 : Nat) "KeptVolunteers$Troupe" "called" "I") ∈ kv_W := kv_t1 (i := 74) (by decide +kernel) (by decide +kernel)
theorem kw1_75 : (Jvm.Cond.fieldLink "KeptVolunteers" (266 : Nat) "KeptVolunteers$Troupe" "called" "I") ∈ kv_W := kv_t1 (i := 75) (by decide +kernel) (by decide +kernel)
theorem kw1_76 : (Jvm.Cond.fieldLink "KeptVolunteers$Troupe" (55 : Nat) "KeptVolunteers$Troupe" "gone" "I") ∈ kv_W := kv_t1 (i := 76) (by decide +kernel) (by decide +kernel)
theorem kw1_77 : (Jvm.Cond.fieldLink "KeptVolunteers" (269 : Nat) "KeptVolunteers$Troupe" "gone" "I") ∈ kv_W := kv_t1 (i := 77) (by decide +kernel) (by decide +kernel)
theorem kw1_78 : (Jvm.Cond.fieldLink "KeptVolunteers$Troupe" (58 : Nat) "KeptVolunteers$Troupe" "seen" "I") ∈ kv_W := kv_t1 (i := 78) (by decide +kernel) (by decide +kernel)
theorem kw1_79 : (Jvm.Cond.fieldLink "KeptVolunteers" (240 : Nat) "KeptVolunteers$Troupe" "seen" "I") ∈ kv_W := kv_t1 (i := 79) (by decide +kernel) (by decide +kernel)
theorem kw1_80 : (Jvm.Cond.laysFinal "KeptVolunteers$Troupe" "KeptVolunteers$Troupe" "strong" "[I") ∈ kv_W := kv_t1 (i := 80) (by decide +kernel) (by decide +kernel)
theorem kw1_82 : (Jvm.Cond.laysFinal "KeptVolunteers$Troupe" "KeptVolunteers$Troupe" "town" "[I") ∈ kv_W := kv_t1 (i := 82) (by decide +kernel) (by decide +kernel)
theorem kw1_84 : (Jvm.Cond.laysFinal "KeptVolunteers$Troupe" "KeptVolunteers$Troupe" "held" "[I") ∈ kv_W := kv_t1 (i := 84) (by decide +kernel) (by decide +kernel)
theorem kw1_86 : (Jvm.Cond.laysFinal "KeptVolunteers$Troupe" "KeptVolunteers$Troupe" "casting" "[I") ∈ kv_W := kv_t1 (i := 86) (by decide +kernel) (by decide +kernel)
theorem kw1_88 : (Jvm.Cond.laysFinal "KeptVolunteers$Troupe" "KeptVolunteers$Troupe" "seenOf" "[I") ∈ kv_W := kv_t1 (i := 88) (by decide +kernel) (by decide +kernel)
theorem kw1_90 : (Jvm.Cond.laysFinal "KeptVolunteers$Troupe" "KeptVolunteers$Troupe" "seenStrongs" "[I") ∈ kv_W := kv_t1 (i := 90) (by decide +kernel) (by decide +kernel)
theorem kw1_92 : (Jvm.Cond.lays "KeptVolunteers$Troupe" "KeptVolunteers$Troupe" "kept" "I") ∈ kv_W := kv_t1 (i := 92) (by decide +kernel) (by decide +kernel)
theorem kw1_94 : (Jvm.Cond.lays "KeptVolunteers$Troupe" "KeptVolunteers$Troupe" "here" "I") ∈ kv_W := kv_t1 (i := 94) (by decide +kernel) (by decide +kernel)
theorem kw1_96 : (Jvm.Cond.lays "KeptVolunteers$Troupe" "KeptVolunteers$Troupe" "nights" "I") ∈ kv_W := kv_t1 (i := 96) (by decide +kernel) (by decide +kernel)
theorem kw1_98 : (Jvm.Cond.lays "KeptVolunteers$Troupe" "KeptVolunteers$Troupe" "doneOnNights" "I") ∈ kv_W := kv_t1 (i := 98) (by decide +kernel) (by decide +kernel)
theorem kw1_100 : (Jvm.Cond.lays "KeptVolunteers$Troupe" "KeptVolunteers$Troupe" "moves" "I") ∈ kv_W := kv_t1 (i := 100) (by decide +kernel) (by decide +kernel)
theorem kw1_102 : (Jvm.Cond.lays "KeptVolunteers$Troupe" "KeptVolunteers$Troupe" "called" "I") ∈ kv_W := kv_t1 (i := 102) (by decide +kernel) (by decide +kernel)
theorem kw1_104 : (Jvm.Cond.lays "KeptVolunteers$Troupe" "KeptVolunteers$Troupe" "gone" "I") ∈ kv_W := kv_t1 (i := 104) (by decide +kernel) (by decide +kernel)
theorem kw1_106 : (Jvm.Cond.lays "KeptVolunteers$Troupe" "KeptVolunteers$Troupe" "seen" "I") ∈ kv_W := kv_t1 (i := 106) (by decide +kernel) (by decide +kernel)
theorem kw1_109 : (Jvm.Cond.classLink "KeptVolunteers" (26 : Nat) "KeptVolunteers$Planner") ∈ kv_W := kv_t1 (i := 109) (by decide +kernel) (by decide +kernel)
theorem kw1_110 : (Jvm.Cond.instantiable "KeptVolunteers$Planner" (8 : Nat)) ∈ kv_W := kv_t1 (i := 110) (by decide +kernel) (by decide +kernel)
theorem kw1_111 : (Jvm.Cond.methodLink "KeptVolunteers" (28 : Nat) ({ cls := "KeptVolunteers$Planner", name := "<init>", desc := "()V" } : Jvm.MethodName)) ∈ kv_W := kv_t1 (i := 111) (by decide +kernel) (by decide +kernel)
theorem kw1_112 : (Jvm.Cond.instanceMethod ({ cls := "KeptVolunteers$Planner", name := "<init>", desc := "()V" } : Jvm.MethodName)) ∈ kv_W := kv_t1 (i := 112) (by decide +kernel) (by decide +kernel)
theorem kw1_113 : (Jvm.Cond.code ({ cls := "KeptVolunteers$Planner", name := "<init>", desc := "()V" } : Jvm.MethodName) prog_6_method_1_code (3 : Nat) (Option.none : Option Jvm.ClassFile.FieldType)) ∈ kv_W := kv_t1 (i := 113) (by decide +kernel) (by decide +kernel)
theorem kw1_114 : (Jvm.Cond.methodLink "KeptVolunteers$Planner" (3 : Nat) ({ cls := "java/lang/Object", name := "<init>", desc := "()V" } : Jvm.MethodName)) ∈ kv_W := kv_t1 (i := 114) (by decide +kernel) (by decide +kernel)
theorem kw1_115 : (Jvm.Cond.fieldLink "KeptVolunteers$Planner" (9 : Nat) "KeptVolunteers$Planner" "best" "[I") ∈ kv_W := kv_t1 (i := 115) (by decide +kernel) (by decide +kernel)
theorem kw1_116 : (Jvm.Cond.fieldLink "KeptVolunteers" (174 : Nat) "KeptVolunteers$Planner" "best" "[I") ∈ kv_W := kv_t1 (i := 116) (by decide +kernel) (by decide +kernel)
theorem kw1_117 : (Jvm.Cond.fieldLink "KeptVolunteers$Planner" (15 : Nat) "KeptVolunteers$Planner" "chosen" "[I") ∈ kv_W := kv_t1 (i := 117) (by decide +kernel) (by decide +kernel)
theorem kw1_118 : (Jvm.Cond.fieldLink "KeptVolunteers$Planner" (18 : Nat) "KeptVolunteers$Planner" "ways" "[I") ∈ kv_W := kv_t1 (i := 118) (by decide +kernel) (by decide +kernel)
theorem kw1_119 : (Jvm.Cond.fieldLink "KeptVolunteers$Planner" (21 : Nat) "KeptVolunteers$Planner" "clashes" "[I") ∈ kv_W := kv_t1 (i := 119) (by decide +kernel) (by decide +kernel)
theorem kw1_120 : (Jvm.Cond.fieldLink "KeptVolunteers$Planner" (24 : Nat) "KeptVolunteers$Planner" "apart" "[I") ∈ kv_W := kv_t1 (i := 120) (by decide +kernel) (by decide +kernel)
theorem kw1_121 : (Jvm.Cond.fieldLink "KeptVolunteers$Planner" (39 : Nat) "KeptVolunteers$Planner" "tricks" "I") ∈ kv_W := kv_t1 (i := 121) (by decide +kernel) (by decide +kernel)
theorem kw1_122 : (Jvm.Cond.fieldLink "KeptVolunteers$Planner" (50 : Nat) "KeptVolunteers$Planner" "away" "I") ∈ kv_W := kv_t1 (i := 122) (by decide +kernel) (by decide +kernel)
theorem kw1_123 : (Jvm.Cond.fieldLink "KeptVolunteers$Planner" (53 : Nat) "KeptVolunteers$Planner" "bestDone" "I") ∈ kv_W := kv_t1 (i := 123) (by decide +kernel) (by decide +kernel)
theorem kw1_124 : (Jvm.Cond.laysFinal "KeptVolunteers$Planner" "KeptVolunteers$Planner" "best" "[I") ∈ kv_W := kv_t1 (i := 124) (by decide +kernel) (by decide +kernel)
theorem kw1_126 : (Jvm.Cond.laysFinal "KeptVolunteers$Planner" "KeptVolunteers$Planner" "chosen" "[I") ∈ kv_W := kv_t1 (i := 126) (by decide +kernel) (by decide +kernel)
theorem kw1_128 : (Jvm.Cond.laysFinal "KeptVolunteers$Planner" "KeptVolunteers$Planner" "ways" "[I") ∈ kv_W := kv_t1 (i := 128) (by decide +kernel) (by decide +kernel)
theorem kw1_130 : (Jvm.Cond.laysFinal "KeptVolunteers$Planner" "KeptVolunteers$Planner" "clashes" "[I") ∈ kv_W := kv_t1 (i := 130) (by decide +kernel) (by decide +kernel)
theorem kw1_132 : (Jvm.Cond.laysFinal "KeptVolunteers$Planner" "KeptVolunteers$Planner" "apart" "[I") ∈ kv_W := kv_t1 (i := 132) (by decide +kernel) (by decide +kernel)
theorem kw1_134 : (Jvm.Cond.lays "KeptVolunteers$Planner" "KeptVolunteers$Planner" "tricks" "I") ∈ kv_W := kv_t1 (i := 134) (by decide +kernel) (by decide +kernel)
theorem kw1_136 : (Jvm.Cond.lays "KeptVolunteers$Planner" "KeptVolunteers$Planner" "away" "I") ∈ kv_W := kv_t1 (i := 136) (by decide +kernel) (by decide +kernel)
theorem kw1_138 : (Jvm.Cond.lays "KeptVolunteers$Planner" "KeptVolunteers$Planner" "bestDone" "I") ∈ kv_W := kv_t1 (i := 138) (by decide +kernel) (by decide +kernel)
theorem kw1_141 : (Jvm.Cond.classLink "KeptVolunteers" (33 : Nat) "KeptVolunteers$Tour") ∈ kv_W := kv_t1 (i := 141) (by decide +kernel) (by decide +kernel)
theorem kw1_142 : (Jvm.Cond.instantiable "KeptVolunteers$Tour" (6 : Nat)) ∈ kv_W := kv_t1 (i := 142) (by decide +kernel) (by decide +kernel)
theorem kw1_144 : (Jvm.Cond.instanceMethod ({ cls := "KeptVolunteers$Tour", name := "<init>", desc := "()V" } : Jvm.MethodName)) ∈ kv_W := kv_t1 (i := 144) (by decide +kernel) (by decide +kernel)
theorem kw1_145 : (Jvm.Cond.code ({ cls := "KeptVolunteers$Tour", name := "<init>", desc := "()V" } : Jvm.MethodName) prog_9_method_1_code (1 : Nat) (Option.none : Option Jvm.ClassFile.FieldType)) ∈ kv_W := kv_t1 (i := 145) (by decide +kernel) (by decide +kernel)
theorem kw1_146 : (Jvm.Cond.methodLink "KeptVolunteers$Tour" (3 : Nat) ({ cls := "java/lang/Object", name := "<init>", desc := "()V" } : Jvm.MethodName)) ∈ kv_W := kv_t1 (i := 146) (by decide +kernel) (by decide +kernel)
theorem kw1_147 : (Jvm.Cond.fieldLink "KeptVolunteers$Tour" (9 : Nat) "KeptVolunteers$Tour" "line" "[I") ∈ kv_W := kv_t1 (i := 147) (by decide +kernel) (by decide +kernel)
theorem kw1_148 : (Jvm.Cond.fieldLink "KeptVolunteers$Tour" (15 : Nat) "KeptVolunteers$Tour" "taken" "[I") ∈ kv_W := kv_t1 (i := 148) (by decide +kernel) (by decide +kernel)
theorem kw1_149 : (Jvm.Cond.fieldLink "KeptVolunteers$Tour" (18 : Nat) "KeptVolunteers$Tour" "size" "I") ∈ kv_W := kv_t1 (i := 149) (by decide +kernel) (by decide +kernel)
theorem kw1_150 : (Jvm.Cond.fieldLink "KeptVolunteers$Tour" (22 : Nat) "KeptVolunteers$Tour" "done" "I") ∈ kv_W := kv_t1 (i := 150) (by decide +kernel) (by decide +kernel)
theorem kw1_151 : (Jvm.Cond.fieldLink "KeptVolunteers" (247 : Nat) "KeptVolunteers$Tour" "done" "I") ∈ kv_W := kv_t1 (i := 151) (by decide +kernel) (by decide +kernel)
theorem kw1_152 : (Jvm.Cond.fieldLink "KeptVolunteers$Tour" (25 : Nat) "KeptVolunteers$Tour" "gone" "I") ∈ kv_W := kv_t1 (i := 152) (by decide +kernel) (by decide +kernel)
theorem kw1_153 : (Jvm.Cond.fieldLink "KeptVolunteers" (250 : Nat) "KeptVolunteers$Tour" "gone" "I") ∈ kv_W := kv_t1 (i := 153) (by decide +kernel) (by decide +kernel)
theorem kw1_154 : (Jvm.Cond.fieldLink "KeptVolunteers$Tour" (28 : Nat) "KeptVolunteers$Tour" "seed" "I") ∈ kv_W := kv_t1 (i := 154) (by decide +kernel) (by decide +kernel)
theorem kw1_155 : (Jvm.Cond.fieldLink "KeptVolunteers" (253 : Nat) "KeptVolunteers$Tour" "seed" "I") ∈ kv_W := kv_t1 (i := 155) (by decide +kernel) (by decide +kernel)
theorem kw1_156 : (Jvm.Cond.laysFinal "KeptVolunteers$Tour" "KeptVolunteers$Tour" "line" "[I") ∈ kv_W := kv_t1 (i := 156) (by decide +kernel) (by decide +kernel)
theorem kw1_158 : (Jvm.Cond.laysFinal "KeptVolunteers$Tour" "KeptVolunteers$Tour" "taken" "[I") ∈ kv_W := kv_t1 (i := 158) (by decide +kernel) (by decide +kernel)
theorem kw1_160 : (Jvm.Cond.lays "KeptVolunteers$Tour" "KeptVolunteers$Tour" "size" "I") ∈ kv_W := kv_t1 (i := 160) (by decide +kernel) (by decide +kernel)
theorem kw1_162 : (Jvm.Cond.lays "KeptVolunteers$Tour" "KeptVolunteers$Tour" "done" "I") ∈ kv_W := kv_t1 (i := 162) (by decide +kernel) (by decide +kernel)
theorem kw1_164 : (Jvm.Cond.lays "KeptVolunteers$Tour" "KeptVolunteers$Tour" "gone" "I") ∈ kv_W := kv_t1 (i := 164) (by decide +kernel) (by decide +kernel)
theorem kw1_166 : (Jvm.Cond.lays "KeptVolunteers$Tour" "KeptVolunteers$Tour" "seed" "I") ∈ kv_W := kv_t1 (i := 166) (by decide +kernel) (by decide +kernel)
theorem kw1_169 : (Jvm.Cond.classLink "KeptVolunteers" (40 : Nat) "KeptVolunteers$Bill") ∈ kv_W := kv_t1 (i := 169) (by decide +kernel) (by decide +kernel)
theorem kw1_170 : (Jvm.Cond.instantiable "KeptVolunteers$Bill" (2 : Nat)) ∈ kv_W := kv_t1 (i := 170) (by decide +kernel) (by decide +kernel)
theorem kw1_171 : (Jvm.Cond.classLink "KeptVolunteers" (42 : Nat) "KeptVolunteers$Trick") ∈ kv_W := kv_t1 (i := 171) (by decide +kernel) (by decide +kernel)
theorem kw1_173 : (Jvm.Cond.methodLink "KeptVolunteers" (44 : Nat) ({ cls := "KeptVolunteers$Bill", name := "<init>", desc := "([LKeptVolunteers$Trick;I)V" } : Jvm.MethodName)) ∈ kv_W := kv_t1 (i := 173) (by decide +kernel) (by decide +kernel)
theorem kw1_174 : (Jvm.Cond.instanceMethod ({ cls := "KeptVolunteers$Bill", name := "<init>", desc := "([LKeptVolunteers$Trick;I)V" } : Jvm.MethodName)) ∈ kv_W := kv_t1 (i := 174) (by decide +kernel) (by decide +kernel)
theorem kw1_175 : (Jvm.Cond.code ({ cls := "KeptVolunteers$Bill", name := "<init>", desc := "([LKeptVolunteers$Trick;I)V" } : Jvm.MethodName) prog_2_method_1_code (3 : Nat) (Option.none : Option Jvm.ClassFile.FieldType)) ∈ kv_W := kv_t1 (i := 175) (by decide +kernel) (by decide +kernel)
theorem kw1_176 : (Jvm.Cond.methodLink "KeptVolunteers$Bill" (3 : Nat) ({ cls := "java/lang/Object", name := "<init>", desc := "()V" } : Jvm.MethodName)) ∈ kv_W := kv_t1 (i := 176) (by decide +kernel) (by decide +kernel)
theorem kw1_177 : (Jvm.Cond.fieldLink "KeptVolunteers$Bill" (9 : Nat) "KeptVolunteers$Bill" "tricks" "[LKeptVolunteers$Trick;") ∈ kv_W := kv_t1 (i := 177) (by decide +kernel) (by decide +kernel)
theorem kw1_178 : (Jvm.Cond.fieldLink "KeptVolunteers$Planner" (27 : Nat) "KeptVolunteers$Bill" "tricks" "[LKeptVolunteers$Trick;") ∈ kv_W := kv_t1 (i := 178) (by decide +kernel) (by decide +kernel)
theorem kw1_179 : (Jvm.Cond.fieldLink "KeptVolunteers$Tour" (53 : Nat) "KeptVolunteers$Bill" "tricks" "[LKeptVolunteers$Trick;") ∈ kv_W := kv_t1 (i := 179) (by decide +kernel) (by decide +kernel)
theorem kw1_180 : (Jvm.Cond.fieldLink "KeptVolunteers" (85 : Nat) "KeptVolunteers$Bill" "tricks" "[LKeptVolunteers$Trick;") ∈ kv_W := kv_t1 (i := 180) (by decide +kernel) (by decide +kernel)
theorem kw1_181 : (Jvm.Cond.fieldLink "KeptVolunteers$Bill" (15 : Nat) "KeptVolunteers$Bill" "people" "I") ∈ kv_W := kv_t1 (i := 181) (by decide +kernel) (by decide +kernel)
theorem kw1_182 : (Jvm.Cond.fieldLink "KeptVolunteers" (71 : Nat) "KeptVolunteers$Bill" "people" "I") ∈ kv_W := kv_t1 (i := 182) (by decide +kernel) (by decide +kernel)
theorem kw1_183 : (Jvm.Cond.laysFinal "KeptVolunteers$Bill" "KeptVolunteers$Bill" "tricks" "[LKeptVolunteers$Trick;") ∈ kv_W := kv_t1 (i := 183) (by decide +kernel) (by decide +kernel)
theorem kw1_185 : (Jvm.Cond.laysFinal "KeptVolunteers$Bill" "KeptVolunteers$Bill" "people" "I") ∈ kv_W := kv_t1 (i := 185) (by decide +kernel) (by decide +kernel)
theorem kw1_188 : (Jvm.Cond.fieldLink "KeptVolunteers" (10 : Nat) "KeptVolunteers" "page" "LKeptVolunteers$Page;") ∈ kv_W := kv_t1 (i := 188) (by decide +kernel) (by decide +kernel)
theorem kw1_189 : (Jvm.Cond.fieldLink "KeptVolunteers" (19 : Nat) "KeptVolunteers" "troupe" "LKeptVolunteers$Troupe;") ∈ kv_W := kv_t1 (i := 189) (by decide +kernel) (by decide +kernel)
theorem kw1_190 : (Jvm.Cond.fieldLink "KeptVolunteers" (23 : Nat) "KeptVolunteers" "picture" "LKeptVolunteers$Troupe;") ∈ kv_W := kv_t1 (i := 190) (by decide +kernel) (by decide +kernel)
theorem kw1_191 : (Jvm.Cond.fieldLink "KeptVolunteers" (29 : Nat) "KeptVolunteers" "planner" "LKeptVolunteers$Planner;") ∈ kv_W := kv_t1 (i := 191) (by decide +kernel) (by decide +kernel)
theorem kw1_192 : (Jvm.Cond.fieldLink "KeptVolunteers" (36 : Nat) "KeptVolunteers" "tour" "LKeptVolunteers$Tour;") ∈ kv_W := kv_t1 (i := 192) (by decide +kernel) (by decide +kernel)
theorem kw1_193 : (Jvm.Cond.fieldLink "KeptVolunteers" (47 : Nat) "KeptVolunteers" "bill" "LKeptVolunteers$Bill;") ∈ kv_W := kv_t1 (i := 193) (by decide +kernel) (by decide +kernel)
theorem kw1_194 : (Jvm.Cond.fieldLink "KeptVolunteers" (78 : Nat) "KeptVolunteers" "pictured" "Z") ∈ kv_W := kv_t1 (i := 194) (by decide +kernel) (by decide +kernel)
theorem kw1_195 : (Jvm.Cond.fieldLink "KeptVolunteers" (82 : Nat) "KeptVolunteers" "showsRead" "I") ∈ kv_W := kv_t1 (i := 195) (by decide +kernel) (by decide +kernel)
theorem kw1_196 : (Jvm.Cond.fieldLink "KeptVolunteers" (168 : Nat) "KeptVolunteers" "mostsDone" "I") ∈ kv_W := kv_t1 (i := 196) (by decide +kernel) (by decide +kernel)
theorem kw1_197 : (Jvm.Cond.fieldLink "KeptVolunteers" (206 : Nat) "KeptVolunteers" "fewestsDone" "I") ∈ kv_W := kv_t1 (i := 197) (by decide +kernel) (by decide +kernel)
theorem kw1_198 : (Jvm.Cond.fieldLink "KeptVolunteers" (216 : Nat) "KeptVolunteers" "sparesDone" "I") ∈ kv_W := kv_t1 (i := 198) (by decide +kernel) (by decide +kernel)
theorem kw1_199 : (Jvm.Cond.laysFinal "KeptVolunteers" "KeptVolunteers" "page" "LKeptVolunteers$Page;") ∈ kv_W := kv_t1 (i := 199) (by decide +kernel) (by decide +kernel)
theorem kw1_201 : (Jvm.Cond.laysFinal "KeptVolunteers" "KeptVolunteers" "troupe" "LKeptVolunteers$Troupe;") ∈ kv_W := kv_t1 (i := 201) (by decide +kernel) (by decide +kernel)
theorem kw1_203 : (Jvm.Cond.laysFinal "KeptVolunteers" "KeptVolunteers" "picture" "LKeptVolunteers$Troupe;") ∈ kv_W := kv_t1 (i := 203) (by decide +kernel) (by decide +kernel)
theorem kw1_205 : (Jvm.Cond.laysFinal "KeptVolunteers" "KeptVolunteers" "planner" "LKeptVolunteers$Planner;") ∈ kv_W := kv_t1 (i := 205) (by decide +kernel) (by decide +kernel)
theorem kw1_207 : (Jvm.Cond.laysFinal "KeptVolunteers" "KeptVolunteers" "tour" "LKeptVolunteers$Tour;") ∈ kv_W := kv_t1 (i := 207) (by decide +kernel) (by decide +kernel)
theorem kw1_209 : (Jvm.Cond.lays "KeptVolunteers" "KeptVolunteers" "bill" "LKeptVolunteers$Bill;") ∈ kv_W := kv_t1 (i := 209) (by decide +kernel) (by decide +kernel)
theorem kw1_211 : (Jvm.Cond.lays "KeptVolunteers" "KeptVolunteers" "pictured" "Z") ∈ kv_W := kv_t1 (i := 211) (by decide +kernel) (by decide +kernel)
theorem kw1_213 : (Jvm.Cond.lays "KeptVolunteers" "KeptVolunteers" "showsRead" "I") ∈ kv_W := kv_t1 (i := 213) (by decide +kernel) (by decide +kernel)
theorem kw1_215 : (Jvm.Cond.lays "KeptVolunteers" "KeptVolunteers" "mostsDone" "I") ∈ kv_W := kv_t1 (i := 215) (by decide +kernel) (by decide +kernel)
theorem kw1_217 : (Jvm.Cond.lays "KeptVolunteers" "KeptVolunteers" "fewestsDone" "I") ∈ kv_W := kv_t1 (i := 217) (by decide +kernel) (by decide +kernel)
theorem kw1_219 : (Jvm.Cond.lays "KeptVolunteers" "KeptVolunteers" "sparesDone" "I") ∈ kv_W := kv_t1 (i := 219) (by decide +kernel) (by decide +kernel)
theorem kw1_222 : (Jvm.Cond.methodLink "KeptVolunteersLaw" (13 : Nat) ({ cls := "KeptVolunteers", name := "letter", desc := "(I)I" } : Jvm.MethodName)) ∈ kv_W := kv_t1 (i := 222) (by decide +kernel) (by decide +kernel)
theorem kw1_223 : (Jvm.Cond.instanceMethod ({ cls := "KeptVolunteers", name := "letter", desc := "(I)I" } : Jvm.MethodName)) ∈ kv_W := kv_t1 (i := 223) (by decide +kernel) (by decide +kernel)
theorem kw1_224 : (Jvm.Cond.selects "KeptVolunteers" ({ cls := "KeptVolunteers", name := "letter", desc := "(I)I" } : Jvm.MethodName) ({ cls := "KeptVolunteers", name := "letter", desc := "(I)I" } : Jvm.MethodName)) ∈ kv_W := kv_t1 (i := 224) (by decide +kernel) (by decide +kernel)
theorem kw1_225 : (Jvm.Cond.code ({ cls := "KeptVolunteers", name := "letter", desc := "(I)I" } : Jvm.MethodName) prog_1_method_2_code (2 : Nat) (Option.some Jvm.ClassFile.FieldType.int)) ∈ kv_W := kv_t1 (i := 225) (by decide +kernel) (by decide +kernel)
theorem kw1_226 : (Jvm.Cond.methodLink "KeptVolunteers" (51 : Nat) ({ cls := "KeptVolunteers$Page", name := "put", desc := "(I)Z" } : Jvm.MethodName)) ∈ kv_W := kv_t1 (i := 226) (by decide +kernel) (by decide +kernel)
theorem kw1_227 : (Jvm.Cond.instanceMethod ({ cls := "KeptVolunteers$Page", name := "put", desc := "(I)Z" } : Jvm.MethodName)) ∈ kv_W := kv_t1 (i := 227) (by decide +kernel) (by decide +kernel)
theorem kw1_228 : (Jvm.Cond.selects "KeptVolunteers$Page" ({ cls := "KeptVolunteers$Page", name := "put", desc := "(I)Z" } : Jvm.MethodName) ({ cls := "KeptVolunteers$Page", name := "put", desc := "(I)Z" } : Jvm.MethodName)) ∈ kv_W := kv_t1 (i := 228) (by decide +kernel) (by decide +kernel)
theorem kw1_229 : (Jvm.Cond.code ({ cls := "KeptVolunteers$Page", name := "put", desc := "(I)Z" } : Jvm.MethodName) prog_4_method_2_code (2 : Nat) (Option.some Jvm.ClassFile.FieldType.boolean)) ∈ kv_W := kv_t1 (i := 229) (by decide +kernel) (by decide +kernel)
theorem kw1_230 : (Jvm.Cond.methodLink "KeptVolunteersLaw" (18 : Nat) ({ cls := "KeptVolunteers", name := "blank", desc := "()I" } : Jvm.MethodName)) ∈ kv_W := kv_t1 (i := 230) (by decide +kernel) (by decide +kernel)
theorem kw1_231 : (Jvm.Cond.instanceMethod ({ cls := "KeptVolunteers", name := "blank", desc := "()I" } : Jvm.MethodName)) ∈ kv_W := kv_t1 (i := 231) (by decide +kernel) (by decide +kernel)
theorem kw1_232 : (Jvm.Cond.selects "KeptVolunteers" ({ cls := "KeptVolunteers", name := "blank", desc := "()I" } : Jvm.MethodName) ({ cls := "KeptVolunteers", name := "blank", desc := "()I" } : Jvm.MethodName)) ∈ kv_W := kv_t1 (i := 232) (by decide +kernel) (by decide +kernel)
theorem kw1_233 : (Jvm.Cond.code ({ cls := "KeptVolunteers", name := "blank", desc := "()I" } : Jvm.MethodName) prog_1_method_3_code (2 : Nat) (Option.some Jvm.ClassFile.FieldType.int)) ∈ kv_W := kv_t1 (i := 233) (by decide +kernel) (by decide +kernel)
theorem kw1_234 : (Jvm.Cond.methodLink "KeptVolunteersLaw" (23 : Nat) ({ cls := "KeptVolunteers", name := "fault", desc := "()I" } : Jvm.MethodName)) ∈ kv_W := kv_t1 (i := 234) (by decide +kernel) (by decide +kernel)
theorem kw1_235 : (Jvm.Cond.instanceMethod ({ cls := "KeptVolunteers", name := "fault", desc := "()I" } : Jvm.MethodName)) ∈ kv_W := kv_t1 (i := 235) (by decide +kernel) (by decide +kernel)
theorem kw1_236 : (Jvm.Cond.selects "KeptVolunteers" ({ cls := "KeptVolunteers", name := "fault", desc := "()I" } : Jvm.MethodName) ({ cls := "KeptVolunteers", name := "fault", desc := "()I" } : Jvm.MethodName)) ∈ kv_W := kv_t1 (i := 236) (by decide +kernel) (by decide +kernel)
theorem kw1_237 : (Jvm.Cond.code ({ cls := "KeptVolunteers", name := "fault", desc := "()I" } : Jvm.MethodName) prog_1_method_4_code (1 : Nat) (Option.some Jvm.ClassFile.FieldType.int)) ∈ kv_W := kv_t1 (i := 237) (by decide +kernel) (by decide +kernel)
theorem kw1_238 : (Jvm.Cond.methodLink "KeptVolunteers" (59 : Nat) ({ cls := "KeptVolunteers$Page", name := "firstFault", desc := "()I" } : Jvm.MethodName)) ∈ kv_W := kv_t1 (i := 238) (by decide +kernel) (by decide +kernel)
theorem kw1_239 : (Jvm.Cond.instanceMethod ({ cls := "KeptVolunteers$Page", name := "firstFault", desc := "()I" } : Jvm.MethodName)) ∈ kv_W := kv_t1 (i := 239) (by decide +kernel) (by decide +kernel)
theorem kw2_0 : (Jvm.Cond.selects "KeptVolunteers$Page" ({ cls := "KeptVolunteers$Page", name := "firstFault", desc := "()I" } : Jvm.MethodName) ({ cls := "KeptVolunteers$Page", name := "firstFault", desc := "()I" } : Jvm.MethodName)) ∈ kv_W := kv_t2 (i := 0) (by decide +kernel) (by decide +kernel)
theorem kw2_1 : (Jvm.Cond.code ({ cls := "KeptVolunteers$Page", name := "firstFault", desc := "()I" } : Jvm.MethodName) prog_4_method_3_code (4 : Nat) (Option.some Jvm.ClassFile.FieldType.int)) ∈ kv_W := kv_t2 (i := 1) (by decide +kernel) (by decide +kernel)
theorem kw2_2 : (Jvm.Cond.methodLink "KeptVolunteers$Page" (19 : Nat) ({ cls := "KeptVolunteers$Page", name := "tricksEnd", desc := "()I" } : Jvm.MethodName)) ∈ kv_W := kv_t2 (i := 2) (by decide +kernel) (by decide +kernel)
theorem kw2_3 : (Jvm.Cond.instanceMethod ({ cls := "KeptVolunteers$Page", name := "tricksEnd", desc := "()I" } : Jvm.MethodName)) ∈ kv_W := kv_t2 (i := 3) (by decide +kernel) (by decide +kernel)
theorem kw2_4 : (Jvm.Cond.selects "KeptVolunteers$Page" ({ cls := "KeptVolunteers$Page", name := "tricksEnd", desc := "()I" } : Jvm.MethodName) ({ cls := "KeptVolunteers$Page", name := "tricksEnd", desc := "()I" } : Jvm.MethodName)) ∈ kv_W := kv_t2 (i := 4) (by decide +kernel) (by decide +kernel)
theorem kw2_5 : (Jvm.Cond.code ({ cls := "KeptVolunteers$Page", name := "tricksEnd", desc := "()I" } : Jvm.MethodName) prog_4_method_5_code (2 : Nat) (Option.some Jvm.ClassFile.FieldType.int)) ∈ kv_W := kv_t2 (i := 5) (by decide +kernel) (by decide +kernel)
theorem kw2_6 : (Jvm.Cond.methodLink "KeptVolunteers$Page" (23 : Nat) ({ cls := "KeptVolunteers$Page", name := "isOfPeople", desc := "(II)Z" } : Jvm.MethodName)) ∈ kv_W := kv_t2 (i := 6) (by decide +kernel) (by decide +kernel)
theorem kw2_7 : (Jvm.Cond.instanceMethod ({ cls := "KeptVolunteers$Page", name := "isOfPeople", desc := "(II)Z" } : Jvm.MethodName)) ∈ kv_W := kv_t2 (i := 7) (by decide +kernel) (by decide +kernel)
theorem kw2_8 : (Jvm.Cond.selects "KeptVolunteers$Page" ({ cls := "KeptVolunteers$Page", name := "isOfPeople", desc := "(II)Z" } : Jvm.MethodName) ({ cls := "KeptVolunteers$Page", name := "isOfPeople", desc := "(II)Z" } : Jvm.MethodName)) ∈ kv_W := kv_t2 (i := 8) (by decide +kernel) (by decide +kernel)
theorem kw2_9 : (Jvm.Cond.code ({ cls := "KeptVolunteers$Page", name := "isOfPeople", desc := "(II)Z" } : Jvm.MethodName) prog_4_method_7_code (4 : Nat) (Option.some Jvm.ClassFile.FieldType.boolean)) ∈ kv_W := kv_t2 (i := 9) (by decide +kernel) (by decide +kernel)
theorem kw2_10 : (Jvm.Cond.methodLink "KeptVolunteers$Page" (42 : Nat) ({ cls := "KeptVolunteers$Page", name := "isDigit", desc := "(III)Z" } : Jvm.MethodName)) ∈ kv_W := kv_t2 (i := 10) (by decide +kernel) (by decide +kernel)
theorem kw2_11 : (Jvm.Cond.instanceMethod ({ cls := "KeptVolunteers$Page", name := "isDigit", desc := "(III)Z" } : Jvm.MethodName)) ∈ kv_W := kv_t2 (i := 11) (by decide +kernel) (by decide +kernel)
theorem kw2_12 : (Jvm.Cond.selects "KeptVolunteers$Page" ({ cls := "KeptVolunteers$Page", name := "isDigit", desc := "(III)Z" } : Jvm.MethodName) ({ cls := "KeptVolunteers$Page", name := "isDigit", desc := "(III)Z" } : Jvm.MethodName)) ∈ kv_W := kv_t2 (i := 12) (by decide +kernel) (by decide +kernel)
theorem kw2_13 : (Jvm.Cond.code ({ cls := "KeptVolunteers$Page", name := "isDigit", desc := "(III)Z" } : Jvm.MethodName) prog_4_method_8_code (5 : Nat) (Option.some Jvm.ClassFile.FieldType.boolean)) ∈ kv_W := kv_t2 (i := 13) (by decide +kernel) (by decide +kernel)
theorem kw2_14 : (Jvm.Cond.methodLink "KeptVolunteers$Page" (46 : Nat) ({ cls := "KeptVolunteers$Page", name := "digitAt", desc := "(I)I" } : Jvm.MethodName)) ∈ kv_W := kv_t2 (i := 14) (by decide +kernel) (by decide +kernel)
theorem kw2_15 : (Jvm.Cond.instanceMethod ({ cls := "KeptVolunteers$Page", name := "digitAt", desc := "(I)I" } : Jvm.MethodName)) ∈ kv_W := kv_t2 (i := 15) (by decide +kernel) (by decide +kernel)
theorem kw2_16 : (Jvm.Cond.selects "KeptVolunteers$Page" ({ cls := "KeptVolunteers$Page", name := "digitAt", desc := "(I)I" } : Jvm.MethodName) ({ cls := "KeptVolunteers$Page", name := "digitAt", desc := "(I)I" } : Jvm.MethodName)) ∈ kv_W := kv_t2 (i := 16) (by decide +kernel) (by decide +kernel)
theorem kw2_17 : (Jvm.Cond.code ({ cls := "KeptVolunteers$Page", name := "digitAt", desc := "(I)I" } : Jvm.MethodName) prog_4_method_9_code (2 : Nat) (Option.some Jvm.ClassFile.FieldType.int)) ∈ kv_W := kv_t2 (i := 17) (by decide +kernel) (by decide +kernel)
theorem kw2_18 : (Jvm.Cond.methodLink "KeptVolunteers$Page" (27 : Nat) ({ cls := "KeptVolunteers$Page", name := "isOfTricks", desc := "(I)Z" } : Jvm.MethodName)) ∈ kv_W := kv_t2 (i := 18) (by decide +kernel) (by decide +kernel)
theorem kw2_19 : (Jvm.Cond.instanceMethod ({ cls := "KeptVolunteers$Page", name := "isOfTricks", desc := "(I)Z" } : Jvm.MethodName)) ∈ kv_W := kv_t2 (i := 19) (by decide +kernel) (by decide +kernel)
theorem kw2_20 : (Jvm.Cond.selects "KeptVolunteers$Page" ({ cls := "KeptVolunteers$Page", name := "isOfTricks", desc := "(I)Z" } : Jvm.MethodName) ({ cls := "KeptVolunteers$Page", name := "isOfTricks", desc := "(I)Z" } : Jvm.MethodName)) ∈ kv_W := kv_t2 (i := 20) (by decide +kernel) (by decide +kernel)
theorem kw2_21 : (Jvm.Cond.code ({ cls := "KeptVolunteers$Page", name := "isOfTricks", desc := "(I)Z" } : Jvm.MethodName) prog_4_method_6_code (3 : Nat) (Option.some Jvm.ClassFile.FieldType.boolean)) ∈ kv_W := kv_t2 (i := 21) (by decide +kernel) (by decide +kernel)
theorem kw2_23 : (Jvm.Cond.methodLink "KeptVolunteers$Page" (36 : Nat) ({ cls := "java/lang/String", name := "indexOf", desc := "(I)I" } : Jvm.MethodName)) ∈ kv_W := kv_t2 (i := 23) (by decide +kernel) (by decide +kernel)
theorem kw2_24 : (Jvm.Cond.instanceMethod ({ cls := "java/lang/String", name := "indexOf", desc := "(I)I" } : Jvm.MethodName)) ∈ kv_W := kv_t2 (i := 24) (by decide +kernel) (by decide +kernel)
theorem kw2_25 : (Jvm.Cond.selects "java/lang/String" ({ cls := "java/lang/String", name := "indexOf", desc := "(I)I" } : Jvm.MethodName) ({ cls := "java/lang/String", name := "indexOf", desc := "(I)I" } : Jvm.MethodName)) ∈ kv_W := kv_t2 (i := 25) (by decide +kernel) (by decide +kernel)
theorem kw2_26 : (Jvm.Cond.code ({ cls := "java/lang/String", name := "indexOf", desc := "(I)I" } : Jvm.MethodName) prog_17_method_79_code (2 : Nat) (Option.some Jvm.ClassFile.FieldType.int)) ∈ kv_W := kv_t2 (i := 26) (by decide +kernel) (by decide +kernel)
theorem kw2_27 : (Jvm.Cond.methodLink "java/lang/String" (633 : Nat) ({ cls := "java/lang/String", name := "indexOf", desc := "(II)I" } : Jvm.MethodName)) ∈ kv_W := kv_t2 (i := 27) (by decide +kernel) (by decide +kernel)
theorem kw2_28 : (Jvm.Cond.instanceMethod ({ cls := "java/lang/String", name := "indexOf", desc := "(II)I" } : Jvm.MethodName)) ∈ kv_W := kv_t2 (i := 28) (by decide +kernel) (by decide +kernel)
theorem kw2_29 : (Jvm.Cond.selects "java/lang/String" ({ cls := "java/lang/String", name := "indexOf", desc := "(II)I" } : Jvm.MethodName) ({ cls := "java/lang/String", name := "indexOf", desc := "(II)I" } : Jvm.MethodName)) ∈ kv_W := kv_t2 (i := 29) (by decide +kernel) (by decide +kernel)
theorem kw2_30 : (Jvm.Cond.code ({ cls := "java/lang/String", name := "indexOf", desc := "(II)I" } : Jvm.MethodName) prog_17_method_80_code (3 : Nat) (Option.some Jvm.ClassFile.FieldType.int)) ∈ kv_W := kv_t2 (i := 30) (by decide +kernel) (by decide +kernel)
theorem kw2_31 : (Jvm.Cond.methodLink "java/lang/String" (492 : Nat) ({ cls := "java/lang/String", name := "isLatin1", desc := "()Z" } : Jvm.MethodName)) ∈ kv_W := kv_t2 (i := 31) (by decide +kernel) (by decide +kernel)
theorem kw2_32 : (Jvm.Cond.instanceMethod ({ cls := "java/lang/String", name := "isLatin1", desc := "()Z" } : Jvm.MethodName)) ∈ kv_W := kv_t2 (i := 32) (by decide +kernel) (by decide +kernel)
theorem kw2_33 : (Jvm.Cond.selects "java/lang/String" ({ cls := "java/lang/String", name := "isLatin1", desc := "()Z" } : Jvm.MethodName) ({ cls := "java/lang/String", name := "isLatin1", desc := "()Z" } : Jvm.MethodName)) ∈ kv_W := kv_t2 (i := 33) (by decide +kernel) (by decide +kernel)
theorem kw2_34 : (Jvm.Cond.code ({ cls := "java/lang/String", name := "isLatin1", desc := "()Z" } : Jvm.MethodName) prog_17_method_154_code (1 : Nat) (Option.some Jvm.ClassFile.FieldType.boolean)) ∈ kv_W := kv_t2 (i := 34) (by decide +kernel) (by decide +kernel)
theorem kw2_35 : (Jvm.Cond.fieldLink "java/lang/String" (38 : Nat) "java/lang/String" "COMPACT_STRINGS" "Z") ∈ kv_W := kv_t2 (i := 35) (by decide +kernel) (by decide +kernel)
theorem kw2_37 : (Jvm.Cond.methodLink "java/lang/String" (505 : Nat) ({ cls := "java/lang/String", name := "length", desc := "()I" } : Jvm.MethodName)) ∈ kv_W := kv_t2 (i := 37) (by decide +kernel) (by decide +kernel)
theorem kw2_38 : (Jvm.Cond.instanceMethod ({ cls := "java/lang/String", name := "length", desc := "()I" } : Jvm.MethodName)) ∈ kv_W := kv_t2 (i := 38) (by decide +kernel) (by decide +kernel)
theorem kw2_39 : (Jvm.Cond.selects "java/lang/String" ({ cls := "java/lang/String", name := "length", desc := "()I" } : Jvm.MethodName) ({ cls := "java/lang/String", name := "length", desc := "()I" } : Jvm.MethodName)) ∈ kv_W := kv_t2 (i := 39) (by decide +kernel) (by decide +kernel)
theorem kw2_40 : (Jvm.Cond.code ({ cls := "java/lang/String", name := "length", desc := "()I" } : Jvm.MethodName) prog_17_method_54_code (1 : Nat) (Option.some Jvm.ClassFile.FieldType.int)) ∈ kv_W := kv_t2 (i := 40) (by decide +kernel) (by decide +kernel)
theorem kw2_41 : (Jvm.Cond.methodLink "java/lang/String" (335 : Nat) ({ cls := "java/lang/String", name := "coder", desc := "()B" } : Jvm.MethodName)) ∈ kv_W := kv_t2 (i := 41) (by decide +kernel) (by decide +kernel)
theorem kw2_42 : (Jvm.Cond.instanceMethod ({ cls := "java/lang/String", name := "coder", desc := "()B" } : Jvm.MethodName)) ∈ kv_W := kv_t2 (i := 42) (by decide +kernel) (by decide +kernel)
theorem kw2_43 : (Jvm.Cond.selects "java/lang/String" ({ cls := "java/lang/String", name := "coder", desc := "()B" } : Jvm.MethodName) ({ cls := "java/lang/String", name := "coder", desc := "()B" } : Jvm.MethodName)) ∈ kv_W := kv_t2 (i := 43) (by decide +kernel) (by decide +kernel)
theorem kw2_44 : (Jvm.Cond.code ({ cls := "java/lang/String", name := "coder", desc := "()B" } : Jvm.MethodName) prog_17_method_152_code (1 : Nat) (Option.some Jvm.ClassFile.FieldType.byte)) ∈ kv_W := kv_t2 (i := 44) (by decide +kernel) (by decide +kernel)
theorem kw2_45 : (Jvm.Cond.methodLink "java/lang/String" (637 : Nat) ({ cls := "java/lang/StringLatin1", name := "indexOf", desc := "([BIII)I" } : Jvm.MethodName)) ∈ kv_W := kv_t2 (i := 45) (by decide +kernel) (by decide +kernel)
theorem kw2_46 : (Jvm.Cond.static ({ cls := "java/lang/StringLatin1", name := "indexOf", desc := "([BIII)I" } : Jvm.MethodName)) ∈ kv_W := kv_t2 (i := 46) (by decide +kernel) (by decide +kernel)
theorem kw2_47 : (Jvm.Cond.code ({ cls := "java/lang/StringLatin1", name := "indexOf", desc := "([BIII)I" } : Jvm.MethodName) prog_18_method_22_code (4 : Nat) (Option.some Jvm.ClassFile.FieldType.int)) ∈ kv_W := kv_t2 (i := 47) (by decide +kernel) (by decide +kernel)
theorem kw2_48 : (Jvm.Cond.methodLink "java/lang/StringLatin1" (88 : Nat) ({ cls := "java/lang/StringLatin1", name := "canEncode", desc := "(I)Z" } : Jvm.MethodName)) ∈ kv_W := kv_t2 (i := 48) (by decide +kernel) (by decide +kernel)
theorem kw2_49 : (Jvm.Cond.static ({ cls := "java/lang/StringLatin1", name := "canEncode", desc := "(I)Z" } : Jvm.MethodName)) ∈ kv_W := kv_t2 (i := 49) (by decide +kernel) (by decide +kernel)
theorem kw2_50 : (Jvm.Cond.code ({ cls := "java/lang/StringLatin1", name := "canEncode", desc := "(I)Z" } : Jvm.MethodName) prog_18_method_4_code (1 : Nat) (Option.some Jvm.ClassFile.FieldType.boolean)) ∈ kv_W := kv_t2 (i := 50) (by decide +kernel) (by decide +kernel)
theorem kw2_51 : (Jvm.Cond.methodLink "java/lang/StringLatin1" (92 : Nat) ({ cls := "java/lang/Math", name := "max", desc := "(II)I" } : Jvm.MethodName)) ∈ kv_W := kv_t2 (i := 51) (by decide +kernel) (by decide +kernel)
theorem kw2_52 : (Jvm.Cond.static ({ cls := "java/lang/Math", name := "max", desc := "(II)I" } : Jvm.MethodName)) ∈ kv_W := kv_t2 (i := 52) (by decide +kernel) (by decide +kernel)
theorem kw2_53 : (Jvm.Cond.code ({ cls := "java/lang/Math", name := "max", desc := "(II)I" } : Jvm.MethodName) prog_16_method_65_code (2 : Nat) (Option.some Jvm.ClassFile.FieldType.int)) ∈ kv_W := kv_t2 (i := 53) (by decide +kernel) (by decide +kernel)
theorem kw2_54 : (Jvm.Cond.methodLink "java/lang/StringLatin1" (38 : Nat) ({ cls := "java/lang/Math", name := "min", desc := "(II)I" } : Jvm.MethodName)) ∈ kv_W := kv_t2 (i := 54) (by decide +kernel) (by decide +kernel)
theorem kw2_55 : (Jvm.Cond.static ({ cls := "java/lang/Math", name := "min", desc := "(II)I" } : Jvm.MethodName)) ∈ kv_W := kv_t2 (i := 55) (by decide +kernel) (by decide +kernel)
theorem kw2_56 : (Jvm.Cond.code ({ cls := "java/lang/Math", name := "min", desc := "(II)I" } : Jvm.MethodName) prog_16_method_69_code (2 : Nat) (Option.some Jvm.ClassFile.FieldType.int)) ∈ kv_W := kv_t2 (i := 56) (by decide +kernel) (by decide +kernel)
theorem kw2_57 : (Jvm.Cond.methodLink "java/lang/StringLatin1" (95 : Nat) ({ cls := "java/lang/StringLatin1", name := "indexOfChar", desc := "([BIII)I" } : Jvm.MethodName)) ∈ kv_W := kv_t2 (i := 57) (by decide +kernel) (by decide +kernel)
theorem kw2_58 : (Jvm.Cond.static ({ cls := "java/lang/StringLatin1", name := "indexOfChar", desc := "([BIII)I" } : Jvm.MethodName)) ∈ kv_W := kv_t2 (i := 58) (by decide +kernel) (by decide +kernel)
theorem kw2_59 : (Jvm.Cond.code ({ cls := "java/lang/StringLatin1", name := "indexOfChar", desc := "([BIII)I" } : Jvm.MethodName) prog_18_method_23_code (6 : Nat) (Option.some Jvm.ClassFile.FieldType.int)) ∈ kv_W := kv_t2 (i := 59) (by decide +kernel) (by decide +kernel)
theorem kw2_60 : (Jvm.Cond.methodLink "java/lang/String" (640 : Nat) ({ cls := "java/lang/StringUTF16", name := "indexOf", desc := "([BIII)I" } : Jvm.MethodName)) ∈ kv_W := kv_t2 (i := 60) (by decide +kernel) (by decide +kernel)
theorem kw2_61 : (Jvm.Cond.static ({ cls := "java/lang/StringUTF16", name := "indexOf", desc := "([BIII)I" } : Jvm.MethodName)) ∈ kv_W := kv_t2 (i := 61) (by decide +kernel) (by decide +kernel)
theorem kw2_62 : (Jvm.Cond.code ({ cls := "java/lang/StringUTF16", name := "indexOf", desc := "([BIII)I" } : Jvm.MethodName) prog_19_method_40_code (4 : Nat) (Option.some Jvm.ClassFile.FieldType.int)) ∈ kv_W := kv_t2 (i := 62) (by decide +kernel) (by decide +kernel)
theorem kw2_63 : (Jvm.Cond.methodLink "java/lang/StringUTF16" (224 : Nat) ({ cls := "java/lang/Math", name := "max", desc := "(II)I" } : Jvm.MethodName)) ∈ kv_W := kv_t2 (i := 63) (by decide +kernel) (by decide +kernel)
theorem kw2_64 : (Jvm.Cond.methodLink "java/lang/StringUTF16" (183 : Nat) ({ cls := "java/lang/Math", name := "min", desc := "(II)I" } : Jvm.MethodName)) ∈ kv_W := kv_t2 (i := 64) (by decide +kernel) (by decide +kernel)
theorem kw2_65 : (Jvm.Cond.constant "java/lang/StringUTF16" (227 : Nat) (65536 : Int32)) ∈ kv_W := kv_t2 (i := 65) (by decide +kernel) (by decide +kernel)
theorem kw2_66 : (Jvm.Cond.methodLink "java/lang/StringUTF16" (228 : Nat) ({ cls := "java/lang/StringUTF16", name := "indexOfChar", desc := "([BIII)I" } : Jvm.MethodName)) ∈ kv_W := kv_t2 (i := 66) (by decide +kernel) (by decide +kernel)
theorem kw2_67 : (Jvm.Cond.static ({ cls := "java/lang/StringUTF16", name := "indexOfChar", desc := "([BIII)I" } : Jvm.MethodName)) ∈ kv_W := kv_t2 (i := 67) (by decide +kernel) (by decide +kernel)
theorem kw2_68 : (Jvm.Cond.code ({ cls := "java/lang/StringUTF16", name := "indexOfChar", desc := "([BIII)I" } : Jvm.MethodName) prog_19_method_47_code (4 : Nat) (Option.some Jvm.ClassFile.FieldType.int)) ∈ kv_W := kv_t2 (i := 68) (by decide +kernel) (by decide +kernel)
theorem kw2_69 : (Jvm.Cond.methodLink "java/lang/StringUTF16" (96 : Nat) ({ cls := "java/lang/StringUTF16", name := "checkBoundsBeginEnd", desc := "(II[B)V" } : Jvm.MethodName)) ∈ kv_W := kv_t2 (i := 69) (by decide +kernel) (by decide +kernel)
theorem kw2_70 : (Jvm.Cond.static ({ cls := "java/lang/StringUTF16", name := "checkBoundsBeginEnd", desc := "(II[B)V" } : Jvm.MethodName)) ∈ kv_W := kv_t2 (i := 70) (by decide +kernel) (by decide +kernel)
theorem kw2_71 : (Jvm.Cond.code ({ cls := "java/lang/StringUTF16", name := "checkBoundsBeginEnd", desc := "(II[B)V" } : Jvm.MethodName) prog_19_method_93_code (3 : Nat) (Option.none : Option Jvm.ClassFile.FieldType)) ∈ kv_W := kv_t2 (i := 71) (by decide +kernel) (by decide +kernel)
theorem kw2_72 : (Jvm.Cond.methodLink "java/lang/StringUTF16" (48 : Nat) ({ cls := "java/lang/StringUTF16", name := "length", desc := "([B)I" } : Jvm.MethodName)) ∈ kv_W := kv_t2 (i := 72) (by decide +kernel) (by decide +kernel)
theorem kw2_73 : (Jvm.Cond.static ({ cls := "java/lang/StringUTF16", name := "length", desc := "([B)I" } : Jvm.MethodName)) ∈ kv_W := kv_t2 (i := 73) (by decide +kernel) (by decide +kernel)
theorem kw2_74 : (Jvm.Cond.code ({ cls := "java/lang/StringUTF16", name := "length", desc := "([B)I" } : Jvm.MethodName) prog_19_method_6_code (1 : Nat) (Option.some Jvm.ClassFile.FieldType.int)) ∈ kv_W := kv_t2 (i := 74) (by decide +kernel) (by decide +kernel)
theorem kw2_75 : (Jvm.Cond.methodLink "java/lang/StringUTF16" (241 : Nat) ({ cls := "java/lang/String", name := "checkBoundsBeginEnd", desc := "(III)V" } : Jvm.MethodName)) ∈ kv_W := kv_t2 (i := 75) (by decide +kernel) (by decide +kernel)
theorem kw2_76 : (Jvm.Cond.static ({ cls := "java/lang/String", name := "checkBoundsBeginEnd", desc := "(III)V" } : Jvm.MethodName)) ∈ kv_W := kv_t2 (i := 76) (by decide +kernel) (by decide +kernel)
theorem kw2_77 : (Jvm.Cond.code ({ cls := "java/lang/String", name := "checkBoundsBeginEnd", desc := "(III)V" } : Jvm.MethodName) prog_17_method_158_code (3 : Nat) (Option.none : Option Jvm.ClassFile.FieldType)) ∈ kv_W := kv_t2 (i := 77) (by decide +kernel) (by decide +kernel)
theorem kw2_78 : (Jvm.Cond.fieldLink "java/lang/String" (1053 : Nat) "jdk/internal/util/Preconditions" "SIOOBE_FORMATTER" "Ljava/util/function/BiFunction;") ∈ kv_W := kv_t2 (i := 78) (by decide +kernel) (by decide +kernel)
theorem kw2_80 : (Jvm.Cond.methodLink "java/lang/String" (1062 : Nat) ({ cls := "jdk/internal/util/Preconditions", name := "checkFromToIndex", desc := "(IIILjava/util/function/BiFunction;)I" } : Jvm.MethodName)) ∈ kv_W := kv_t2 (i := 80) (by decide +kernel) (by decide +kernel)
theorem kw2_81 : (Jvm.Cond.static ({ cls := "jdk/internal/util/Preconditions", name := "checkFromToIndex", desc := "(IIILjava/util/function/BiFunction;)I" } : Jvm.MethodName)) ∈ kv_W := kv_t2 (i := 81) (by decide +kernel) (by decide +kernel)
theorem kw2_82 : (Jvm.Cond.code ({ cls := "jdk/internal/util/Preconditions", name := "checkFromToIndex", desc := "(IIILjava/util/function/BiFunction;)I" } : Jvm.MethodName) prog_22_method_12_code (4 : Nat) (Option.some Jvm.ClassFile.FieldType.int)) ∈ kv_W := kv_t2 (i := 82) (by decide +kernel) (by decide +kernel)
theorem kw2_83 : (Jvm.Cond.methodLink "java/lang/StringUTF16" (244 : Nat) ({ cls := "java/lang/StringUTF16", name := "indexOfCharUnsafe", desc := "([BIII)I" } : Jvm.MethodName)) ∈ kv_W := kv_t2 (i := 83) (by decide +kernel) (by decide +kernel)
theorem kw2_84 : (Jvm.Cond.static ({ cls := "java/lang/StringUTF16", name := "indexOfCharUnsafe", desc := "([BIII)I" } : Jvm.MethodName)) ∈ kv_W := kv_t2 (i := 84) (by decide +kernel) (by decide +kernel)
theorem kw2_85 : (Jvm.Cond.code ({ cls := "java/lang/StringUTF16", name := "indexOfCharUnsafe", desc := "([BIII)I" } : Jvm.MethodName) prog_19_method_48_code (5 : Nat) (Option.some Jvm.ClassFile.FieldType.int)) ∈ kv_W := kv_t2 (i := 85) (by decide +kernel) (by decide +kernel)
theorem kw2_86 : (Jvm.Cond.methodLink "java/lang/StringUTF16" (71 : Nat) ({ cls := "java/lang/StringUTF16", name := "getChar", desc := "([BI)C" } : Jvm.MethodName)) ∈ kv_W := kv_t2 (i := 86) (by decide +kernel) (by decide +kernel)
theorem kw2_87 : (Jvm.Cond.static ({ cls := "java/lang/StringUTF16", name := "getChar", desc := "([BI)C" } : Jvm.MethodName)) ∈ kv_W := kv_t2 (i := 87) (by decide +kernel) (by decide +kernel)
theorem kw2_88 : (Jvm.Cond.code ({ cls := "java/lang/StringUTF16", name := "getChar", desc := "([BI)C" } : Jvm.MethodName) prog_19_method_5_code (2 : Nat) (Option.some Jvm.ClassFile.FieldType.char)) ∈ kv_W := kv_t2 (i := 88) (by decide +kernel) (by decide +kernel)
theorem kw2_89 : (Jvm.Cond.fieldLink "java/lang/StringUTF16" (44 : Nat) "java/lang/StringUTF16" "$assertionsDisabled" "Z") ∈ kv_W := kv_t2 (i := 89) (by decide +kernel) (by decide +kernel)
theorem kw2_91 : (Jvm.Cond.fieldLink "java/lang/StringUTF16" (59 : Nat) "java/lang/StringUTF16" "HI_BYTE_SHIFT" "I") ∈ kv_W := kv_t2 (i := 91) (by decide +kernel) (by decide +kernel)
theorem kw2_93 : (Jvm.Cond.fieldLink "java/lang/StringUTF16" (63 : Nat) "java/lang/StringUTF16" "LO_BYTE_SHIFT" "I") ∈ kv_W := kv_t2 (i := 93) (by decide +kernel) (by decide +kernel)
theorem kw2_95 : (Jvm.Cond.methodLink "java/lang/StringUTF16" (232 : Nat) ({ cls := "java/lang/StringUTF16", name := "indexOfSupplementary", desc := "([BIII)I" } : Jvm.MethodName)) ∈ kv_W := kv_t2 (i := 95) (by decide +kernel) (by decide +kernel)
theorem kw2_96 : (Jvm.Cond.static ({ cls := "java/lang/StringUTF16", name := "indexOfSupplementary", desc := "([BIII)I" } : Jvm.MethodName)) ∈ kv_W := kv_t2 (i := 96) (by decide +kernel) (by decide +kernel)
theorem kw2_97 : (Jvm.Cond.code ({ cls := "java/lang/StringUTF16", name := "indexOfSupplementary", desc := "([BIII)I" } : Jvm.MethodName) prog_19_method_49_code (7 : Nat) (Option.some Jvm.ClassFile.FieldType.int)) ∈ kv_W := kv_t2 (i := 97) (by decide +kernel) (by decide +kernel)
theorem kw2_98 : (Jvm.Cond.methodLink "java/lang/StringUTF16" (164 : Nat) ({ cls := "java/lang/Character", name := "isValidCodePoint", desc := "(I)Z" } : Jvm.MethodName)) ∈ kv_W := kv_t2 (i := 98) (by decide +kernel) (by decide +kernel)
theorem kw2_99 : (Jvm.Cond.static ({ cls := "java/lang/Character", name := "isValidCodePoint", desc := "(I)Z" } : Jvm.MethodName)) ∈ kv_W := kv_t2 (i := 99) (by decide +kernel) (by decide +kernel)
theorem kw2_100 : (Jvm.Cond.code ({ cls := "java/lang/Character", name := "isValidCodePoint", desc := "(I)Z" } : Jvm.MethodName) prog_14_method_11_code (2 : Nat) (Option.some Jvm.ClassFile.FieldType.boolean)) ∈ kv_W := kv_t2 (i := 100) (by decide +kernel) (by decide +kernel)
theorem kw2_101 : (Jvm.Cond.methodLink "java/lang/StringUTF16" (157 : Nat) ({ cls := "java/lang/Character", name := "highSurrogate", desc := "(I)C" } : Jvm.MethodName)) ∈ kv_W := kv_t2 (i := 101) (by decide +kernel) (by decide +kernel)
theorem kw2_102 : (Jvm.Cond.static ({ cls := "java/lang/Character", name := "highSurrogate", desc := "(I)C" } : Jvm.MethodName)) ∈ kv_W := kv_t2 (i := 102) (by decide +kernel) (by decide +kernel)
theorem kw2_103 : (Jvm.Cond.code ({ cls := "java/lang/Character", name := "highSurrogate", desc := "(I)C" } : Jvm.MethodName) prog_14_method_28_code (1 : Nat) (Option.some Jvm.ClassFile.FieldType.char)) ∈ kv_W := kv_t2 (i := 103) (by decide +kernel) (by decide +kernel)
theorem kw2_104 : (Jvm.Cond.constant "java/lang/Character" (110 : Nat) (55232 : Int32)) ∈ kv_W := kv_t2 (i := 104) (by decide +kernel) (by decide +kernel)
theorem kw2_105 : (Jvm.Cond.methodLink "java/lang/StringUTF16" (161 : Nat) ({ cls := "java/lang/Character", name := "lowSurrogate", desc := "(I)C" } : Jvm.MethodName)) ∈ kv_W := kv_t2 (i := 105) (by decide +kernel) (by decide +kernel)
theorem kw2_106 : (Jvm.Cond.static ({ cls := "java/lang/Character", name := "lowSurrogate", desc := "(I)C" } : Jvm.MethodName)) ∈ kv_W := kv_t2 (i := 106) (by decide +kernel) (by decide +kernel)
theorem kw2_107 : (Jvm.Cond.code ({ cls := "java/lang/Character", name := "lowSurrogate", desc := "(I)C" } : Jvm.MethodName) prog_14_method_29_code (1 : Nat) (Option.some Jvm.ClassFile.FieldType.char)) ∈ kv_W := kv_t2 (i := 107) (by decide +kernel) (by decide +kernel)
theorem kw2_108 : (Jvm.Cond.constant "java/lang/Character" (76 : Nat) (56320 : Int32)) ∈ kv_W := kv_t2 (i := 108) (by decide +kernel) (by decide +kernel)
theorem kw2_109 : (Jvm.Cond.arrayClass Jvm.ClassFile.FieldType.byte) ∈ kv_W := kv_t2 (i := 109) (by decide +kernel) (by decide +kernel)
theorem kw2_110 : (Jvm.Cond.methodLink "KeptVolunteersLaw" (27 : Nat) ({ cls := "KeptVolunteers", name := "show", desc := "()I" } : Jvm.MethodName)) ∈ kv_W := kv_t2 (i := 110) (by decide +kernel) (by decide +kernel)
theorem kw2_111 : (Jvm.Cond.instanceMethod ({ cls := "KeptVolunteers", name := "show", desc := "()I" } : Jvm.MethodName)) ∈ kv_W := kv_t2 (i := 111) (by decide +kernel) (by decide +kernel)
theorem kw2_112 : (Jvm.Cond.selects "KeptVolunteers" ({ cls := "KeptVolunteers", name := "show", desc := "()I" } : Jvm.MethodName) ({ cls := "KeptVolunteers", name := "show", desc := "()I" } : Jvm.MethodName)) ∈ kv_W := kv_t2 (i := 112) (by decide +kernel) (by decide +kernel)
theorem kw2_113 : (Jvm.Cond.code ({ cls := "KeptVolunteers", name := "show", desc := "()I" } : Jvm.MethodName) prog_1_method_5_code (1 : Nat) (Option.some Jvm.ClassFile.FieldType.int)) ∈ kv_W := kv_t2 (i := 113) (by decide +kernel) (by decide +kernel)
theorem kw2_114 : (Jvm.Cond.methodLink "KeptVolunteers" (63 : Nat) ({ cls := "KeptVolunteers$Page", name := "isShow", desc := "()Z" } : Jvm.MethodName)) ∈ kv_W := kv_t2 (i := 114) (by decide +kernel) (by decide +kernel)
theorem kw2_115 : (Jvm.Cond.instanceMethod ({ cls := "KeptVolunteers$Page", name := "isShow", desc := "()Z" } : Jvm.MethodName)) ∈ kv_W := kv_t2 (i := 115) (by decide +kernel) (by decide +kernel)
theorem kw2_116 : (Jvm.Cond.selects "KeptVolunteers$Page" ({ cls := "KeptVolunteers$Page", name := "isShow", desc := "()Z" } : Jvm.MethodName) ({ cls := "KeptVolunteers$Page", name := "isShow", desc := "()Z" } : Jvm.MethodName)) ∈ kv_W := kv_t2 (i := 116) (by decide +kernel) (by decide +kernel)
theorem kw2_117 : (Jvm.Cond.code ({ cls := "KeptVolunteers$Page", name := "isShow", desc := "()Z" } : Jvm.MethodName) prog_4_method_4_code (2 : Nat) (Option.some Jvm.ClassFile.FieldType.boolean)) ∈ kv_W := kv_t2 (i := 117) (by decide +kernel) (by decide +kernel)
theorem kw2_118 : (Jvm.Cond.methodLink "KeptVolunteers$Page" (31 : Nat) ({ cls := "KeptVolunteers$Page", name := "firstFault", desc := "()I" } : Jvm.MethodName)) ∈ kv_W := kv_t2 (i := 118) (by decide +kernel) (by decide +kernel)
theorem kw2_119 : (Jvm.Cond.methodLink "KeptVolunteers" (67 : Nat) ({ cls := "KeptVolunteers$Page", name := "readBill", desc := "()LKeptVolunteers$Bill;" } : Jvm.MethodName)) ∈ kv_W := kv_t2 (i := 119) (by decide +kernel) (by decide +kernel)
theorem kw2_120 : (Jvm.Cond.instanceMethod ({ cls := "KeptVolunteers$Page", name := "readBill", desc := "()LKeptVolunteers$Bill;" } : Jvm.MethodName)) ∈ kv_W := kv_t2 (i := 120) (by decide +kernel) (by decide +kernel)
theorem kw2_121 : (Jvm.Cond.selects "KeptVolunteers$Page" ({ cls := "KeptVolunteers$Page", name := "readBill", desc := "()LKeptVolunteers$Bill;" } : Jvm.MethodName) ({ cls := "KeptVolunteers$Page", name := "readBill", desc := "()LKeptVolunteers$Bill;" } : Jvm.MethodName)) ∈ kv_W := kv_t2 (i := 121) (by decide +kernel) (by decide +kernel)
theorem kw2_122 : (Jvm.Cond.code ({ cls := "KeptVolunteers$Page", name := "readBill", desc := "()LKeptVolunteers$Bill;" } : Jvm.MethodName) prog_4_method_10_code (4 : Nat) (Option.some (Jvm.ClassFile.FieldType.object "KeptVolunteers$Bill"))) ∈ kv_W := kv_t2 (i := 122) (by decide +kernel) (by decide +kernel)
theorem kw2_123 : (Jvm.Cond.methodLink "KeptVolunteers$Page" (49 : Nat) ({ cls := "java/lang/Math", name := "min", desc := "(II)I" } : Jvm.MethodName)) ∈ kv_W := kv_t2 (i := 123) (by decide +kernel) (by decide +kernel)
theorem kw2_124 : (Jvm.Cond.classLink "KeptVolunteers$Page" (55 : Nat) "KeptVolunteers$Trick") ∈ kv_W := kv_t2 (i := 124) (by decide +kernel) (by decide +kernel)
theorem kw2_125 : (Jvm.Cond.methodLink "KeptVolunteers$Page" (57 : Nat) ({ cls := "KeptVolunteers$Page", name := "readTrick", desc := "(I)LKeptVolunteers$Trick;" } : Jvm.MethodName)) ∈ kv_W := kv_t2 (i := 125) (by decide +kernel) (by decide +kernel)
theorem kw2_126 : (Jvm.Cond.instanceMethod ({ cls := "KeptVolunteers$Page", name := "readTrick", desc := "(I)LKeptVolunteers$Trick;" } : Jvm.MethodName)) ∈ kv_W := kv_t2 (i := 126) (by decide +kernel) (by decide +kernel)
theorem kw2_127 : (Jvm.Cond.selects "KeptVolunteers$Page" ({ cls := "KeptVolunteers$Page", name := "readTrick", desc := "(I)LKeptVolunteers$Trick;" } : Jvm.MethodName) ({ cls := "KeptVolunteers$Page", name := "readTrick", desc := "(I)LKeptVolunteers$Trick;" } : Jvm.MethodName)) ∈ kv_W := kv_t2 (i := 127) (by decide +kernel) (by decide +kernel)
theorem kw2_128 : (Jvm.Cond.code ({ cls := "KeptVolunteers$Page", name := "readTrick", desc := "(I)LKeptVolunteers$Trick;" } : Jvm.MethodName) prog_4_method_11_code (5 : Nat) (Option.some (Jvm.ClassFile.FieldType.object "KeptVolunteers$Trick"))) ∈ kv_W := kv_t2 (i := 128) (by decide +kernel) (by decide +kernel)
theorem kw2_129 : (Jvm.Cond.classLink "KeptVolunteers$Page" (66 : Nat) "KeptVolunteers$Pair") ∈ kv_W := kv_t2 (i := 129) (by decide +kernel) (by decide +kernel)
theorem kw2_130 : (Jvm.Cond.instantiable "KeptVolunteers$Pair" (3 : Nat)) ∈ kv_W := kv_t2 (i := 130) (by decide +kernel) (by decide +kernel)
theorem kw2_131 : (Jvm.Cond.methodLink "KeptVolunteers$Page" (68 : Nat) ({ cls := "KeptVolunteers$Pair", name := "<init>", desc := "(III)V" } : Jvm.MethodName)) ∈ kv_W := kv_t2 (i := 131) (by decide +kernel) (by decide +kernel)
theorem kw2_132 : (Jvm.Cond.instanceMethod ({ cls := "KeptVolunteers$Pair", name := "<init>", desc := "(III)V" } : Jvm.MethodName)) ∈ kv_W := kv_t2 (i := 132) (by decide +kernel) (by decide +kernel)
theorem kw2_133 : (Jvm.Cond.code ({ cls := "KeptVolunteers$Pair", name := "<init>", desc := "(III)V" } : Jvm.MethodName) prog_5_method_1_code (4 : Nat) (Option.none : Option Jvm.ClassFile.FieldType)) ∈ kv_W := kv_t2 (i := 133) (by decide +kernel) (by decide +kernel)
theorem kw2_134 : (Jvm.Cond.methodLink "KeptVolunteers$Pair" (3 : Nat) ({ cls := "KeptVolunteers$Trick", name := "<init>", desc := "(III)V" } : Jvm.MethodName)) ∈ kv_W := kv_t2 (i := 134) (by decide +kernel) (by decide +kernel)
theorem kw2_135 : (Jvm.Cond.instanceMethod ({ cls := "KeptVolunteers$Trick", name := "<init>", desc := "(III)V" } : Jvm.MethodName)) ∈ kv_W := kv_t2 (i := 135) (by decide +kernel) (by decide +kernel)
theorem kw2_136 : (Jvm.Cond.code ({ cls := "KeptVolunteers$Trick", name := "<init>", desc := "(III)V" } : Jvm.MethodName) prog_10_method_1_code (4 : Nat) (Option.none : Option Jvm.ClassFile.FieldType)) ∈ kv_W := kv_t2 (i := 136) (by decide +kernel) (by decide +kernel)
theorem kw2_137 : (Jvm.Cond.methodLink "KeptVolunteers$Trick" (3 : Nat) ({ cls := "java/lang/Object", name := "<init>", desc := "()V" } : Jvm.MethodName)) ∈ kv_W := kv_t2 (i := 137) (by decide +kernel) (by decide +kernel)
theorem kw2_138 : (Jvm.Cond.fieldLink "KeptVolunteers$Trick" (9 : Nat) "KeptVolunteers$Trick" "hour" "I") ∈ kv_W := kv_t2 (i := 138) (by decide +kernel) (by decide +kernel)
theorem kw2_139 : (Jvm.Cond.fieldLink "KeptVolunteers" (95 : Nat) "KeptVolunteers$Trick" "hour" "I") ∈ kv_W := kv_t2 (i := 139) (by decide +kernel) (by decide +kernel)
theorem kw2_140 : (Jvm.Cond.fieldLink "KeptVolunteers$Trick" (15 : Nat) "KeptVolunteers$Trick" "hours" "I") ∈ kv_W := kv_t2 (i := 140) (by decide +kernel) (by decide +kernel)
theorem kw2_141 : (Jvm.Cond.fieldLink "KeptVolunteers" (98 : Nat) "KeptVolunteers$Trick" "hours" "I") ∈ kv_W := kv_t2 (i := 141) (by decide +kernel) (by decide +kernel)
theorem kw2_142 : (Jvm.Cond.fieldLink "KeptVolunteers$Trick" (18 : Nat) "KeptVolunteers$Trick" "need" "I") ∈ kv_W := kv_t2 (i := 142) (by decide +kernel) (by decide +kernel)
theorem kw2_143 : (Jvm.Cond.fieldLink "KeptVolunteers$Saw" (9 : Nat) "KeptVolunteers$Saw" "need" "I") ∈ kv_W := kv_t2 (i := 143) (by decide +kernel) (by decide +kernel)
theorem kw2_144 : (Jvm.Cond.sameField "KeptVolunteers$Saw" "KeptVolunteers$Trick" "need" "I") ∈ kv_W := kv_t2 (i := 144) (by decide +kernel) (by decide +kernel)
theorem kw2_145 : (Jvm.Cond.fieldLink "KeptVolunteers$Rope" (9 : Nat) "KeptVolunteers$Rope" "need" "I") ∈ kv_W := kv_t2 (i := 145) (by decide +kernel) (by decide +kernel)
theorem kw2_146 : (Jvm.Cond.sameField "KeptVolunteers$Rope" "KeptVolunteers$Trick" "need" "I") ∈ kv_W := kv_t2 (i := 146) (by decide +kernel) (by decide +kernel)
theorem kw2_147 : (Jvm.Cond.fieldLink "KeptVolunteers" (101 : Nat) "KeptVolunteers$Trick" "need" "I") ∈ kv_W := kv_t2 (i := 147) (by decide +kernel) (by decide +kernel)
theorem kw2_148 : (Jvm.Cond.laysFinal "KeptVolunteers$Pair" "KeptVolunteers$Trick" "hour" "I") ∈ kv_W := kv_t2 (i := 148) (by decide +kernel) (by decide +kernel)
theorem kw2_150 : (Jvm.Cond.laysFinal "KeptVolunteers$Pair" "KeptVolunteers$Trick" "hours" "I") ∈ kv_W := kv_t2 (i := 150) (by decide +kernel) (by decide +kernel)
theorem kw2_152 : (Jvm.Cond.laysFinal "KeptVolunteers$Pair" "KeptVolunteers$Trick" "need" "I") ∈ kv_W := kv_t2 (i := 152) (by decide +kernel) (by decide +kernel)
theorem kw2_155 : (Jvm.Cond.classLink "KeptVolunteers$Page" (71 : Nat) "KeptVolunteers$Saw") ∈ kv_W := kv_t2 (i := 155) (by decide +kernel) (by decide +kernel)
theorem kw2_156 : (Jvm.Cond.instantiable "KeptVolunteers$Saw" (3 : Nat)) ∈ kv_W := kv_t2 (i := 156) (by decide +kernel) (by decide +kernel)
theorem kw2_157 : (Jvm.Cond.methodLink "KeptVolunteers$Page" (73 : Nat) ({ cls := "KeptVolunteers$Saw", name := "<init>", desc := "(III)V" } : Jvm.MethodName)) ∈ kv_W := kv_t2 (i := 157) (by decide +kernel) (by decide +kernel)
theorem kw2_158 : (Jvm.Cond.instanceMethod ({ cls := "KeptVolunteers$Saw", name := "<init>", desc := "(III)V" } : Jvm.MethodName)) ∈ kv_W := kv_t2 (i := 158) (by decide +kernel) (by decide +kernel)
theorem kw2_159 : (Jvm.Cond.code ({ cls := "KeptVolunteers$Saw", name := "<init>", desc := "(III)V" } : Jvm.MethodName) prog_8_method_1_code (4 : Nat) (Option.none : Option Jvm.ClassFile.FieldType)) ∈ kv_W := kv_t2 (i := 159) (by decide +kernel) (by decide +kernel)
theorem kw2_160 : (Jvm.Cond.methodLink "KeptVolunteers$Saw" (3 : Nat) ({ cls := "KeptVolunteers$Trick", name := "<init>", desc := "(III)V" } : Jvm.MethodName)) ∈ kv_W := kv_t2 (i := 160) (by decide +kernel) (by decide +kernel)
theorem kw2_161 : (Jvm.Cond.laysFinal "KeptVolunteers$Saw" "KeptVolunteers$Trick" "hour" "I") ∈ kv_W := kv_t2 (i := 161) (by decide +kernel) (by decide +kernel)
theorem kw2_162 : (Jvm.Cond.laysFinal "KeptVolunteers$Saw" "KeptVolunteers$Trick" "hours" "I") ∈ kv_W := kv_t2 (i := 162) (by decide +kernel) (by decide +kernel)
theorem kw2_163 : (Jvm.Cond.laysFinal "KeptVolunteers$Saw" "KeptVolunteers$Trick" "need" "I") ∈ kv_W := kv_t2 (i := 163) (by decide +kernel) (by decide +kernel)
theorem kw2_165 : (Jvm.Cond.classLink "KeptVolunteers$Page" (74 : Nat) "KeptVolunteers$LongTrick") ∈ kv_W := kv_t2 (i := 165) (by decide +kernel) (by decide +kernel)
theorem kw2_166 : (Jvm.Cond.instantiable "KeptVolunteers$LongTrick" (3 : Nat)) ∈ kv_W := kv_t2 (i := 166) (by decide +kernel) (by decide +kernel)
theorem kw2_167 : (Jvm.Cond.methodLink "KeptVolunteers$Page" (76 : Nat) ({ cls := "KeptVolunteers$LongTrick", name := "<init>", desc := "(III)V" } : Jvm.MethodName)) ∈ kv_W := kv_t2 (i := 167) (by decide +kernel) (by decide +kernel)
theorem kw2_168 : (Jvm.Cond.instanceMethod ({ cls := "KeptVolunteers$LongTrick", name := "<init>", desc := "(III)V" } : Jvm.MethodName)) ∈ kv_W := kv_t2 (i := 168) (by decide +kernel) (by decide +kernel)
theorem kw2_169 : (Jvm.Cond.code ({ cls := "KeptVolunteers$LongTrick", name := "<init>", desc := "(III)V" } : Jvm.MethodName) prog_3_method_1_code (4 : Nat) (Option.none : Option Jvm.ClassFile.FieldType)) ∈ kv_W := kv_t2 (i := 169) (by decide +kernel) (by decide +kernel)
theorem kw2_170 : (Jvm.Cond.methodLink "KeptVolunteers$LongTrick" (3 : Nat) ({ cls := "KeptVolunteers$Trick", name := "<init>", desc := "(III)V" } : Jvm.MethodName)) ∈ kv_W := kv_t2 (i := 170) (by decide +kernel) (by decide +kernel)
theorem kw2_171 : (Jvm.Cond.laysFinal "KeptVolunteers$LongTrick" "KeptVolunteers$Trick" "hour" "I") ∈ kv_W := kv_t2 (i := 171) (by decide +kernel) (by decide +kernel)
theorem kw2_172 : (Jvm.Cond.laysFinal "KeptVolunteers$LongTrick" "KeptVolunteers$Trick" "hours" "I") ∈ kv_W := kv_t2 (i := 172) (by decide +kernel) (by decide +kernel)
theorem kw2_173 : (Jvm.Cond.laysFinal "KeptVolunteers$LongTrick" "KeptVolunteers$Trick" "need" "I") ∈ kv_W := kv_t2 (i := 173) (by decide +kernel) (by decide +kernel)
theorem kw2_175 : (Jvm.Cond.classLink "KeptVolunteers$Page" (77 : Nat) "KeptVolunteers$Rope") ∈ kv_W := kv_t2 (i := 175) (by decide +kernel) (by decide +kernel)
theorem kw2_176 : (Jvm.Cond.instantiable "KeptVolunteers$Rope" (3 : Nat)) ∈ kv_W := kv_t2 (i := 176) (by decide +kernel) (by decide +kernel)
theorem kw2_177 : (Jvm.Cond.methodLink "KeptVolunteers$Page" (79 : Nat) ({ cls := "KeptVolunteers$Rope", name := "<init>", desc := "(III)V" } : Jvm.MethodName)) ∈ kv_W := kv_t2 (i := 177) (by decide +kernel) (by decide +kernel)
theorem kw2_178 : (Jvm.Cond.instanceMethod ({ cls := "KeptVolunteers$Rope", name := "<init>", desc := "(III)V" } : Jvm.MethodName)) ∈ kv_W := kv_t2 (i := 178) (by decide +kernel) (by decide +kernel)
theorem kw2_179 : (Jvm.Cond.code ({ cls := "KeptVolunteers$Rope", name := "<init>", desc := "(III)V" } : Jvm.MethodName) prog_7_method_1_code (4 : Nat) (Option.none : Option Jvm.ClassFile.FieldType)) ∈ kv_W := kv_t2 (i := 179) (by decide +kernel) (by decide +kernel)
theorem kw2_180 : (Jvm.Cond.methodLink "KeptVolunteers$Rope" (3 : Nat) ({ cls := "KeptVolunteers$Pair", name := "<init>", desc := "(III)V" } : Jvm.MethodName)) ∈ kv_W := kv_t2 (i := 180) (by decide +kernel) (by decide +kernel)
theorem kw2_181 : (Jvm.Cond.laysFinal "KeptVolunteers$Rope" "KeptVolunteers$Trick" "hour" "I") ∈ kv_W := kv_t2 (i := 181) (by decide +kernel) (by decide +kernel)
theorem kw2_182 : (Jvm.Cond.laysFinal "KeptVolunteers$Rope" "KeptVolunteers$Trick" "hours" "I") ∈ kv_W := kv_t2 (i := 182) (by decide +kernel) (by decide +kernel)
theorem kw2_183 : (Jvm.Cond.laysFinal "KeptVolunteers$Rope" "KeptVolunteers$Trick" "need" "I") ∈ kv_W := kv_t2 (i := 183) (by decide +kernel) (by decide +kernel)
theorem kw2_185 : (Jvm.Cond.instantiable "KeptVolunteers$Trick" (3 : Nat)) ∈ kv_W := kv_t2 (i := 185) (by decide +kernel) (by decide +kernel)
theorem kw2_186 : (Jvm.Cond.methodLink "KeptVolunteers$Page" (80 : Nat) ({ cls := "KeptVolunteers$Trick", name := "<init>", desc := "(III)V" } : Jvm.MethodName)) ∈ kv_W := kv_t2 (i := 186) (by decide +kernel) (by decide +kernel)
theorem kw2_187 : (Jvm.Cond.laysFinal "KeptVolunteers$Trick" "KeptVolunteers$Trick" "hour" "I") ∈ kv_W := kv_t2 (i := 187) (by decide +kernel) (by decide +kernel)
theorem kw2_188 : (Jvm.Cond.laysFinal "KeptVolunteers$Trick" "KeptVolunteers$Trick" "hours" "I") ∈ kv_W := kv_t2 (i := 188) (by decide +kernel) (by decide +kernel)
theorem kw2_189 : (Jvm.Cond.laysFinal "KeptVolunteers$Trick" "KeptVolunteers$Trick" "need" "I") ∈ kv_W := kv_t2 (i := 189) (by decide +kernel) (by decide +kernel)
theorem kw2_191 : (Jvm.Cond.classLink "KeptVolunteers$Page" (61 : Nat) "KeptVolunteers$Bill") ∈ kv_W := kv_t2 (i := 191) (by decide +kernel) (by decide +kernel)
theorem kw2_192 : (Jvm.Cond.methodLink "KeptVolunteers$Page" (63 : Nat) ({ cls := "KeptVolunteers$Bill", name := "<init>", desc := "([LKeptVolunteers$Trick;I)V" } : Jvm.MethodName)) ∈ kv_W := kv_t2 (i := 192) (by decide +kernel) (by decide +kernel)
theorem kw2_193 : (Jvm.Cond.methodLink "KeptVolunteers" (74 : Nat) ({ cls := "KeptVolunteers$Page", name := "readPeople", desc := "(LKeptVolunteers$Troupe;I)V" } : Jvm.MethodName)) ∈ kv_W := kv_t2 (i := 193) (by decide +kernel) (by decide +kernel)
theorem kw2_194 : (Jvm.Cond.instanceMethod ({ cls := "KeptVolunteers$Page", name := "readPeople", desc := "(LKeptVolunteers$Troupe;I)V" } : Jvm.MethodName)) ∈ kv_W := kv_t2 (i := 194) (by decide +kernel) (by decide +kernel)
theorem kw2_195 : (Jvm.Cond.selects "KeptVolunteers$Page" ({ cls := "KeptVolunteers$Page", name := "readPeople", desc := "(LKeptVolunteers$Troupe;I)V" } : Jvm.MethodName) ({ cls := "KeptVolunteers$Page", name := "readPeople", desc := "(LKeptVolunteers$Troupe;I)V" } : Jvm.MethodName)) ∈ kv_W := kv_t2 (i := 195) (by decide +kernel) (by decide +kernel)
theorem kw2_196 : (Jvm.Cond.code ({ cls := "KeptVolunteers$Page", name := "readPeople", desc := "(LKeptVolunteers$Troupe;I)V" } : Jvm.MethodName) prog_4_method_12_code (5 : Nat) (Option.none : Option Jvm.ClassFile.FieldType)) ∈ kv_W := kv_t2 (i := 196) (by decide +kernel) (by decide +kernel)
theorem kw2_197 : (Jvm.Cond.methodLink "KeptVolunteers$Page" (81 : Nat) ({ cls := "KeptVolunteers$Troupe", name := "startAnew", desc := "(I)V" } : Jvm.MethodName)) ∈ kv_W := kv_t2 (i := 197) (by decide +kernel) (by decide +kernel)
theorem kw2_198 : (Jvm.Cond.instanceMethod ({ cls := "KeptVolunteers$Troupe", name := "startAnew", desc := "(I)V" } : Jvm.MethodName)) ∈ kv_W := kv_t2 (i := 198) (by decide +kernel) (by decide +kernel)
theorem kw2_199 : (Jvm.Cond.selects "KeptVolunteers$Troupe" ({ cls := "KeptVolunteers$Troupe", name := "startAnew", desc := "(I)V" } : Jvm.MethodName) ({ cls := "KeptVolunteers$Troupe", name := "startAnew", desc := "(I)V" } : Jvm.MethodName)) ∈ kv_W := kv_t2 (i := 199) (by decide +kernel) (by decide +kernel)
theorem kw2_200 : (Jvm.Cond.code ({ cls := "KeptVolunteers$Troupe", name := "startAnew", desc := "(I)V" } : Jvm.MethodName) prog_11_method_2_code (2 : Nat) (Option.none : Option Jvm.ClassFile.FieldType)) ∈ kv_W := kv_t2 (i := 200) (by decide +kernel) (by decide +kernel)
theorem kw2_201 : (Jvm.Cond.methodLink "KeptVolunteers$Troupe" (30 : Nat) ({ cls := "java/util/Arrays", name := "fill", desc := "([II)V" } : Jvm.MethodName)) ∈ kv_W := kv_t2 (i := 201) (by decide +kernel) (by decide +kernel)
theorem kw2_202 : (Jvm.Cond.static ({ cls := "java/util/Arrays", name := "fill", desc := "([II)V" } : Jvm.MethodName)) ∈ kv_W := kv_t2 (i := 202) (by decide +kernel) (by decide +kernel)
theorem kw2_203 : (Jvm.Cond.code ({ cls := "java/util/Arrays", name := "fill", desc := "([II)V" } : Jvm.MethodName) prog_21_method_103_code (4 : Nat) (Option.none : Option Jvm.ClassFile.FieldType)) ∈ kv_W := kv_t2 (i := 203) (by decide +kernel) (by decide +kernel)
theorem kw2_204 : (Jvm.Cond.methodLink "KeptVolunteersLaw" (31 : Nat) ({ cls := "KeptVolunteers", name := "trick", desc := "(II)I" } : Jvm.MethodName)) ∈ kv_W := kv_t2 (i := 204) (by decide +kernel) (by decide +kernel)
theorem kw2_205 : (Jvm.Cond.instanceMethod ({ cls := "KeptVolunteers", name := "trick", desc := "(II)I" } : Jvm.MethodName)) ∈ kv_W := kv_t2 (i := 205) (by decide +kernel) (by decide +kernel)
theorem kw2_206 : (Jvm.Cond.selects "KeptVolunteers" ({ cls := "KeptVolunteers", name := "trick", desc := "(II)I" } : Jvm.MethodName) ({ cls := "KeptVolunteers", name := "trick", desc := "(II)I" } : Jvm.MethodName)) ∈ kv_W := kv_t2 (i := 206) (by decide +kernel) (by decide +kernel)
theorem kw2_207 : (Jvm.Cond.code ({ cls := "KeptVolunteers", name := "trick", desc := "(II)I" } : Jvm.MethodName) prog_1_method_6_code (4 : Nat) (Option.some Jvm.ClassFile.FieldType.int)) ∈ kv_W := kv_t2 (i := 207) (by decide +kernel) (by decide +kernel)
theorem kw2_208 : (Jvm.Cond.methodLink "KeptVolunteers" (89 : Nat) ({ cls := "KeptVolunteers", name := "isTrick", desc := "(I)Z" } : Jvm.MethodName)) ∈ kv_W := kv_t2 (i := 208) (by decide +kernel) (by decide +kernel)
theorem kw2_210 : (Jvm.Cond.instanceMethod ({ cls := "KeptVolunteers", name := "isTrick", desc := "(I)Z" } : Jvm.MethodName)) ∈ kv_W := kv_t2 (i := 210) (by decide +kernel) (by decide +kernel)
theorem kw2_211 : (Jvm.Cond.code ({ cls := "KeptVolunteers", name := "isTrick", desc := "(I)Z" } : Jvm.MethodName) prog_1_method_31_code (2 : Nat) (Option.some Jvm.ClassFile.FieldType.boolean)) ∈ kv_W := kv_t2 (i := 211) (by decide +kernel) (by decide +kernel)
theorem kw2_212 : (Jvm.Cond.methodLink "KeptVolunteers" (92 : Nat) ({ cls := "KeptVolunteers$Trick", name := "kind", desc := "()I" } : Jvm.MethodName)) ∈ kv_W := kv_t2 (i := 212) (by decide +kernel) (by decide +kernel)
theorem kw2_213 : (Jvm.Cond.instanceMethod ({ cls := "KeptVolunteers$Trick", name := "kind", desc := "()I" } : Jvm.MethodName)) ∈ kv_W := kv_t2 (i := 213) (by decide +kernel) (by decide +kernel)
theorem kw2_214 : (Jvm.Cond.selects "KeptVolunteers$Trick" ({ cls := "KeptVolunteers$Trick", name := "kind", desc := "()I" } : Jvm.MethodName) ({ cls := "KeptVolunteers$Trick", name := "kind", desc := "()I" } : Jvm.MethodName)) ∈ kv_W := kv_t2 (i := 214) (by decide +kernel) (by decide +kernel)
theorem kw2_215 : (Jvm.Cond.sameMethod "KeptVolunteers$Trick" "KeptVolunteers$Trick" "kind" "()I") ∈ kv_W := kv_t2 (i := 215) (by decide +kernel) (by decide +kernel)
theorem kw2_216 : (Jvm.Cond.selects "KeptVolunteers$LongTrick" ({ cls := "KeptVolunteers$Trick", name := "kind", desc := "()I" } : Jvm.MethodName) ({ cls := "KeptVolunteers$LongTrick", name := "kind", desc := "()I" } : Jvm.MethodName)) ∈ kv_W := kv_t2 (i := 216) (by decide +kernel) (by decide +kernel)
theorem kw2_217 : (Jvm.Cond.instanceMethod ({ cls := "KeptVolunteers$LongTrick", name := "kind", desc := "()I" } : Jvm.MethodName)) ∈ kv_W := kv_t2 (i := 217) (by decide +kernel) (by decide +kernel)
theorem kw2_218 : (Jvm.Cond.code ({ cls := "KeptVolunteers$LongTrick", name := "kind", desc := "()I" } : Jvm.MethodName) prog_3_method_2_code (1 : Nat) (Option.some Jvm.ClassFile.FieldType.int)) ∈ kv_W := kv_t2 (i := 218) (by decide +kernel) (by decide +kernel)
theorem kw2_219 : (Jvm.Cond.selects "KeptVolunteers$Pair" ({ cls := "KeptVolunteers$Trick", name := "kind", desc := "()I" } : Jvm.MethodName) ({ cls := "KeptVolunteers$Pair", name := "kind", desc := "()I" } : Jvm.MethodName)) ∈ kv_W := kv_t2 (i := 219) (by decide +kernel) (by decide +kernel)
theorem kw2_220 : (Jvm.Cond.instanceMethod ({ cls := "KeptVolunteers$Pair", name := "kind", desc := "()I" } : Jvm.MethodName)) ∈ kv_W := kv_t2 (i := 220) (by decide +kernel) (by decide +kernel)
theorem kw2_221 : (Jvm.Cond.code ({ cls := "KeptVolunteers$Pair", name := "kind", desc := "()I" } : Jvm.MethodName) prog_5_method_2_code (1 : Nat) (Option.some Jvm.ClassFile.FieldType.int)) ∈ kv_W := kv_t2 (i := 221) (by decide +kernel) (by decide +kernel)
theorem kw2_222 : (Jvm.Cond.selects "KeptVolunteers$Rope" ({ cls := "KeptVolunteers$Trick", name := "kind", desc := "()I" } : Jvm.MethodName) ({ cls := "KeptVolunteers$Rope", name := "kind", desc := "()I" } : Jvm.MethodName)) ∈ kv_W := kv_t2 (i := 222) (by decide +kernel) (by decide +kernel)
theorem kw2_223 : (Jvm.Cond.instanceMethod ({ cls := "KeptVolunteers$Rope", name := "kind", desc := "()I" } : Jvm.MethodName)) ∈ kv_W := kv_t2 (i := 223) (by decide +kernel) (by decide +kernel)
theorem kw2_224 : (Jvm.Cond.code ({ cls := "KeptVolunteers$Rope", name := "kind", desc := "()I" } : Jvm.MethodName) prog_7_method_2_code (1 : Nat) (Option.some Jvm.ClassFile.FieldType.int)) ∈ kv_W := kv_t2 (i := 224) (by decide +kernel) (by decide +kernel)
theorem kw2_225 : (Jvm.Cond.selects "KeptVolunteers$Saw" ({ cls := "KeptVolunteers$Trick", name := "kind", desc := "()I" } : Jvm.MethodName) ({ cls := "KeptVolunteers$Saw", name := "kind", desc := "()I" } : Jvm.MethodName)) ∈ kv_W := kv_t2 (i := 225) (by decide +kernel) (by decide +kernel)
theorem kw2_226 : (Jvm.Cond.instanceMethod ({ cls := "KeptVolunteers$Saw", name := "kind", desc := "()I" } : Jvm.MethodName)) ∈ kv_W := kv_t2 (i := 226) (by decide +kernel) (by decide +kernel)
theorem kw2_227 : (Jvm.Cond.code ({ cls := "KeptVolunteers$Saw", name := "kind", desc := "()I" } : Jvm.MethodName) prog_8_method_2_code (1 : Nat) (Option.some Jvm.ClassFile.FieldType.int)) ∈ kv_W := kv_t2 (i := 227) (by decide +kernel) (by decide +kernel)
theorem kw2_228 : (Jvm.Cond.code ({ cls := "KeptVolunteers$Trick", name := "kind", desc := "()I" } : Jvm.MethodName) prog_10_method_2_code (1 : Nat) (Option.some Jvm.ClassFile.FieldType.int)) ∈ kv_W := kv_t2 (i := 228) (by decide +kernel) (by decide +kernel)
theorem kw2_229 : (Jvm.Cond.methodLink "KeptVolunteers" (104 : Nat) ({ cls := "KeptVolunteers$Trick", name := "crew", desc := "()I" } : Jvm.MethodName)) ∈ kv_W := kv_t2 (i := 229) (by decide +kernel) (by decide +kernel)
theorem kw2_230 : (Jvm.Cond.instanceMethod ({ cls := "KeptVolunteers$Trick", name := "crew", desc := "()I" } : Jvm.MethodName)) ∈ kv_W := kv_t2 (i := 230) (by decide +kernel) (by decide +kernel)
theorem kw2_231 : (Jvm.Cond.selects "KeptVolunteers$Trick" ({ cls := "KeptVolunteers$Trick", name := "crew", desc := "()I" } : Jvm.MethodName) ({ cls := "KeptVolunteers$Trick", name := "crew", desc := "()I" } : Jvm.MethodName)) ∈ kv_W := kv_t2 (i := 231) (by decide +kernel) (by decide +kernel)
theorem kw2_232 : (Jvm.Cond.sameMethod "KeptVolunteers$Trick" "KeptVolunteers$Trick" "crew" "()I") ∈ kv_W := kv_t2 (i := 232) (by decide +kernel) (by decide +kernel)
theorem kw2_233 : (Jvm.Cond.selects "KeptVolunteers$LongTrick" ({ cls := "KeptVolunteers$Trick", name := "crew", desc := "()I" } : Jvm.MethodName) ({ cls := "KeptVolunteers$Trick", name := "crew", desc := "()I" } : Jvm.MethodName)) ∈ kv_W := kv_t2 (i := 233) (by decide +kernel) (by decide +kernel)
theorem kw2_234 : (Jvm.Cond.selects "KeptVolunteers$Pair" ({ cls := "KeptVolunteers$Trick", name := "crew", desc := "()I" } : Jvm.MethodName) ({ cls := "KeptVolunteers$Pair", name := "crew", desc := "()I" } : Jvm.MethodName)) ∈ kv_W := kv_t2 (i := 234) (by decide +kernel) (by decide +kernel)
theorem kw2_235 : (Jvm.Cond.instanceMethod ({ cls := "KeptVolunteers$Pair", name := "crew", desc := "()I" } : Jvm.MethodName)) ∈ kv_W := kv_t2 (i := 235) (by decide +kernel) (by decide +kernel)
theorem kw2_236 : (Jvm.Cond.code ({ cls := "KeptVolunteers$Pair", name := "crew", desc := "()I" } : Jvm.MethodName) prog_5_method_3_code (1 : Nat) (Option.some Jvm.ClassFile.FieldType.int)) ∈ kv_W := kv_t2 (i := 236) (by decide +kernel) (by decide +kernel)
theorem kw2_237 : (Jvm.Cond.selects "KeptVolunteers$Rope" ({ cls := "KeptVolunteers$Trick", name := "crew", desc := "()I" } : Jvm.MethodName) ({ cls := "KeptVolunteers$Pair", name := "crew", desc := "()I" } : Jvm.MethodName)) ∈ kv_W := kv_t2 (i := 237) (by decide +kernel) (by decide +kernel)
theorem kw2_238 : (Jvm.Cond.selects "KeptVolunteers$Saw" ({ cls := "KeptVolunteers$Trick", name := "crew", desc := "()I" } : Jvm.MethodName) ({ cls := "KeptVolunteers$Trick", name := "crew", desc := "()I" } : Jvm.MethodName)) ∈ kv_W := kv_t2 (i := 238) (by decide +kernel) (by decide +kernel)
theorem kw2_239 : (Jvm.Cond.code ({ cls := "KeptVolunteers$Trick", name := "crew", desc := "()I" } : Jvm.MethodName) prog_10_method_3_code (1 : Nat) (Option.some Jvm.ClassFile.FieldType.int)) ∈ kv_W := kv_t2 (i := 239) (by decide +kernel) (by decide +kernel)
theorem kw3_0 : (Jvm.Cond.methodLink "KeptVolunteers" (111 : Nat) ({ cls := "KeptVolunteers", name := "isDoneNow", desc := "(I)Z" } : Jvm.MethodName)) ∈ kv_W := kv_t3 (i := 0) (by decide +kernel) (by decide +kernel)
theorem kw3_2 : (Jvm.Cond.instanceMethod ({ cls := "KeptVolunteers", name := "isDoneNow", desc := "(I)Z" } : Jvm.MethodName)) ∈ kv_W := kv_t3 (i := 2) (by decide +kernel) (by decide +kernel)
theorem kw3_3 : (Jvm.Cond.code ({ cls := "KeptVolunteers", name := "isDoneNow", desc := "(I)Z" } : Jvm.MethodName) prog_1_method_33_code (2 : Nat) (Option.some Jvm.ClassFile.FieldType.boolean)) ∈ kv_W := kv_t3 (i := 3) (by decide +kernel) (by decide +kernel)
theorem kw3_4 : (Jvm.Cond.methodLink "KeptVolunteers" (296 : Nat) ({ cls := "KeptVolunteers$Bill", name := "isDoneBy", desc := "(II[I)Z" } : Jvm.MethodName)) ∈ kv_W := kv_t3 (i := 4) (by decide +kernel) (by decide +kernel)
theorem kw3_5 : (Jvm.Cond.instanceMethod ({ cls := "KeptVolunteers$Bill", name := "isDoneBy", desc := "(II[I)Z" } : Jvm.MethodName)) ∈ kv_W := kv_t3 (i := 5) (by decide +kernel) (by decide +kernel)
theorem kw3_6 : (Jvm.Cond.selects "KeptVolunteers$Bill" ({ cls := "KeptVolunteers$Bill", name := "isDoneBy", desc := "(II[I)Z" } : Jvm.MethodName) ({ cls := "KeptVolunteers$Bill", name := "isDoneBy", desc := "(II[I)Z" } : Jvm.MethodName)) ∈ kv_W := kv_t3 (i := 6) (by decide +kernel) (by decide +kernel)
theorem kw3_7 : (Jvm.Cond.code ({ cls := "KeptVolunteers$Bill", name := "isDoneBy", desc := "(II[I)Z" } : Jvm.MethodName) prog_2_method_3_code (7 : Nat) (Option.some Jvm.ClassFile.FieldType.boolean)) ∈ kv_W := kv_t3 (i := 7) (by decide +kernel) (by decide +kernel)
theorem kw3_8 : (Jvm.Cond.methodLink "KeptVolunteers$Bill" (25 : Nat) ({ cls := "java/lang/Integer", name := "bitCount", desc := "(I)I" } : Jvm.MethodName)) ∈ kv_W := kv_t3 (i := 8) (by decide +kernel) (by decide +kernel)
theorem kw3_9 : (Jvm.Cond.static ({ cls := "java/lang/Integer", name := "bitCount", desc := "(I)I" } : Jvm.MethodName)) ∈ kv_W := kv_t3 (i := 9) (by decide +kernel) (by decide +kernel)
theorem kw3_10 : (Jvm.Cond.code ({ cls := "java/lang/Integer", name := "bitCount", desc := "(I)I" } : Jvm.MethodName) prog_15_method_49_code (1 : Nat) (Option.some Jvm.ClassFile.FieldType.int)) ∈ kv_W := kv_t3 (i := 10) (by decide +kernel) (by decide +kernel)
theorem kw3_11 : (Jvm.Cond.constant "java/lang/Integer" (265 : Nat) (1431655765 : Int32)) ∈ kv_W := kv_t3 (i := 11) (by decide +kernel) (by decide +kernel)
theorem kw3_12 : (Jvm.Cond.constant "java/lang/Integer" (266 : Nat) (858993459 : Int32)) ∈ kv_W := kv_t3 (i := 12) (by decide +kernel) (by decide +kernel)
theorem kw3_13 : (Jvm.Cond.constant "java/lang/Integer" (267 : Nat) (252645135 : Int32)) ∈ kv_W := kv_t3 (i := 13) (by decide +kernel) (by decide +kernel)
theorem kw3_14 : (Jvm.Cond.methodLink "KeptVolunteers$Bill" (31 : Nat) ({ cls := "KeptVolunteers$Trick", name := "crew", desc := "()I" } : Jvm.MethodName)) ∈ kv_W := kv_t3 (i := 14) (by decide +kernel) (by decide +kernel)
theorem kw3_16 : (Jvm.Cond.static ({ cls := "KeptVolunteers", name := "has", desc := "(II)Z" } : Jvm.MethodName)) ∈ kv_W := kv_t3 (i := 16) (by decide +kernel) (by decide +kernel)
theorem kw3_17 : (Jvm.Cond.code ({ cls := "KeptVolunteers", name := "has", desc := "(II)Z" } : Jvm.MethodName) prog_1_method_37_code (2 : Nat) (Option.some Jvm.ClassFile.FieldType.boolean)) ∈ kv_W := kv_t3 (i := 17) (by decide +kernel) (by decide +kernel)
theorem kw3_18 : (Jvm.Cond.methodLink "KeptVolunteers$Bill" (38 : Nat) ({ cls := "KeptVolunteers$Trick", name := "suits", desc := "(I)Z" } : Jvm.MethodName)) ∈ kv_W := kv_t3 (i := 18) (by decide +kernel) (by decide +kernel)
theorem kw3_19 : (Jvm.Cond.instanceMethod ({ cls := "KeptVolunteers$Trick", name := "suits", desc := "(I)Z" } : Jvm.MethodName)) ∈ kv_W := kv_t3 (i := 19) (by decide +kernel) (by decide +kernel)
theorem kw3_20 : (Jvm.Cond.selects "KeptVolunteers$Trick" ({ cls := "KeptVolunteers$Trick", name := "suits", desc := "(I)Z" } : Jvm.MethodName) ({ cls := "KeptVolunteers$Trick", name := "suits", desc := "(I)Z" } : Jvm.MethodName)) ∈ kv_W := kv_t3 (i := 20) (by decide +kernel) (by decide +kernel)
theorem kw3_21 : (Jvm.Cond.sameMethod "KeptVolunteers$Trick" "KeptVolunteers$Trick" "suits" "(I)Z") ∈ kv_W := kv_t3 (i := 21) (by decide +kernel) (by decide +kernel)
theorem kw3_22 : (Jvm.Cond.selects "KeptVolunteers$LongTrick" ({ cls := "KeptVolunteers$Trick", name := "suits", desc := "(I)Z" } : Jvm.MethodName) ({ cls := "KeptVolunteers$Trick", name := "suits", desc := "(I)Z" } : Jvm.MethodName)) ∈ kv_W := kv_t3 (i := 22) (by decide +kernel) (by decide +kernel)
theorem kw3_23 : (Jvm.Cond.selects "KeptVolunteers$Pair" ({ cls := "KeptVolunteers$Trick", name := "suits", desc := "(I)Z" } : Jvm.MethodName) ({ cls := "KeptVolunteers$Trick", name := "suits", desc := "(I)Z" } : Jvm.MethodName)) ∈ kv_W := kv_t3 (i := 23) (by decide +kernel) (by decide +kernel)
theorem kw3_24 : (Jvm.Cond.selects "KeptVolunteers$Rope" ({ cls := "KeptVolunteers$Trick", name := "suits", desc := "(I)Z" } : Jvm.MethodName) ({ cls := "KeptVolunteers$Rope", name := "suits", desc := "(I)Z" } : Jvm.MethodName)) ∈ kv_W := kv_t3 (i := 24) (by decide +kernel) (by decide +kernel)
theorem kw3_25 : (Jvm.Cond.instanceMethod ({ cls := "KeptVolunteers$Rope", name := "suits", desc := "(I)Z" } : Jvm.MethodName)) ∈ kv_W := kv_t3 (i := 25) (by decide +kernel) (by decide +kernel)
theorem kw3_26 : (Jvm.Cond.code ({ cls := "KeptVolunteers$Rope", name := "suits", desc := "(I)Z" } : Jvm.MethodName) prog_7_method_3_code (2 : Nat) (Option.some Jvm.ClassFile.FieldType.boolean)) ∈ kv_W := kv_t3 (i := 26) (by decide +kernel) (by decide +kernel)
theorem kw3_27 : (Jvm.Cond.selects "KeptVolunteers$Saw" ({ cls := "KeptVolunteers$Trick", name := "suits", desc := "(I)Z" } : Jvm.MethodName) ({ cls := "KeptVolunteers$Saw", name := "suits", desc := "(I)Z" } : Jvm.MethodName)) ∈ kv_W := kv_t3 (i := 27) (by decide +kernel) (by decide +kernel)
theorem kw3_28 : (Jvm.Cond.instanceMethod ({ cls := "KeptVolunteers$Saw", name := "suits", desc := "(I)Z" } : Jvm.MethodName)) ∈ kv_W := kv_t3 (i := 28) (by decide +kernel) (by decide +kernel)
theorem kw3_29 : (Jvm.Cond.code ({ cls := "KeptVolunteers$Saw", name := "suits", desc := "(I)Z" } : Jvm.MethodName) prog_8_method_3_code (2 : Nat) (Option.some Jvm.ClassFile.FieldType.boolean)) ∈ kv_W := kv_t3 (i := 29) (by decide +kernel) (by decide +kernel)
theorem kw3_30 : (Jvm.Cond.code ({ cls := "KeptVolunteers$Trick", name := "suits", desc := "(I)Z" } : Jvm.MethodName) prog_10_method_5_code (2 : Nat) (Option.some Jvm.ClassFile.FieldType.boolean)) ∈ kv_W := kv_t3 (i := 30) (by decide +kernel) (by decide +kernel)
theorem kw3_31 : (Jvm.Cond.methodLink "KeptVolunteers$Bill" (42 : Nat) ({ cls := "KeptVolunteers$Trick", name := "holdsWith", desc := "(I)Z" } : Jvm.MethodName)) ∈ kv_W := kv_t3 (i := 31) (by decide +kernel) (by decide +kernel)
theorem kw3_32 : (Jvm.Cond.instanceMethod ({ cls := "KeptVolunteers$Trick", name := "holdsWith", desc := "(I)Z" } : Jvm.MethodName)) ∈ kv_W := kv_t3 (i := 32) (by decide +kernel) (by decide +kernel)
theorem kw3_33 : (Jvm.Cond.selects "KeptVolunteers$Trick" ({ cls := "KeptVolunteers$Trick", name := "holdsWith", desc := "(I)Z" } : Jvm.MethodName) ({ cls := "KeptVolunteers$Trick", name := "holdsWith", desc := "(I)Z" } : Jvm.MethodName)) ∈ kv_W := kv_t3 (i := 33) (by decide +kernel) (by decide +kernel)
theorem kw3_34 : (Jvm.Cond.sameMethod "KeptVolunteers$Trick" "KeptVolunteers$Trick" "holdsWith" "(I)Z") ∈ kv_W := kv_t3 (i := 34) (by decide +kernel) (by decide +kernel)
theorem kw3_35 : (Jvm.Cond.selects "KeptVolunteers$LongTrick" ({ cls := "KeptVolunteers$Trick", name := "holdsWith", desc := "(I)Z" } : Jvm.MethodName) ({ cls := "KeptVolunteers$Trick", name := "holdsWith", desc := "(I)Z" } : Jvm.MethodName)) ∈ kv_W := kv_t3 (i := 35) (by decide +kernel) (by decide +kernel)
theorem kw3_36 : (Jvm.Cond.selects "KeptVolunteers$Pair" ({ cls := "KeptVolunteers$Trick", name := "holdsWith", desc := "(I)Z" } : Jvm.MethodName) ({ cls := "KeptVolunteers$Trick", name := "holdsWith", desc := "(I)Z" } : Jvm.MethodName)) ∈ kv_W := kv_t3 (i := 36) (by decide +kernel) (by decide +kernel)
theorem kw3_37 : (Jvm.Cond.selects "KeptVolunteers$Rope" ({ cls := "KeptVolunteers$Trick", name := "holdsWith", desc := "(I)Z" } : Jvm.MethodName) ({ cls := "KeptVolunteers$Rope", name := "holdsWith", desc := "(I)Z" } : Jvm.MethodName)) ∈ kv_W := kv_t3 (i := 37) (by decide +kernel) (by decide +kernel)
theorem kw3_38 : (Jvm.Cond.instanceMethod ({ cls := "KeptVolunteers$Rope", name := "holdsWith", desc := "(I)Z" } : Jvm.MethodName)) ∈ kv_W := kv_t3 (i := 38) (by decide +kernel) (by decide +kernel)
theorem kw3_39 : (Jvm.Cond.code ({ cls := "KeptVolunteers$Rope", name := "holdsWith", desc := "(I)Z" } : Jvm.MethodName) prog_7_method_4_code (2 : Nat) (Option.some Jvm.ClassFile.FieldType.boolean)) ∈ kv_W := kv_t3 (i := 39) (by decide +kernel) (by decide +kernel)
theorem kw3_40 : (Jvm.Cond.selects "KeptVolunteers$Saw" ({ cls := "KeptVolunteers$Trick", name := "holdsWith", desc := "(I)Z" } : Jvm.MethodName) ({ cls := "KeptVolunteers$Trick", name := "holdsWith", desc := "(I)Z" } : Jvm.MethodName)) ∈ kv_W := kv_t3 (i := 40) (by decide +kernel) (by decide +kernel)
theorem kw3_41 : (Jvm.Cond.code ({ cls := "KeptVolunteers$Trick", name := "holdsWith", desc := "(I)Z" } : Jvm.MethodName) prog_10_method_6_code (2 : Nat) (Option.some Jvm.ClassFile.FieldType.boolean)) ∈ kv_W := kv_t3 (i := 41) (by decide +kernel) (by decide +kernel)
theorem kw3_42 : (Jvm.Cond.methodLink "KeptVolunteers" (114 : Nat) ({ cls := "KeptVolunteers$Troupe", name := "suitedFor", desc := "(LKeptVolunteers$Trick;)I" } : Jvm.MethodName)) ∈ kv_W := kv_t3 (i := 42) (by decide +kernel) (by decide +kernel)
theorem kw3_43 : (Jvm.Cond.instanceMethod ({ cls := "KeptVolunteers$Troupe", name := "suitedFor", desc := "(LKeptVolunteers$Trick;)I" } : Jvm.MethodName)) ∈ kv_W := kv_t3 (i := 43) (by decide +kernel) (by decide +kernel)
theorem kw3_44 : (Jvm.Cond.selects "KeptVolunteers$Troupe" ({ cls := "KeptVolunteers$Troupe", name := "suitedFor", desc := "(LKeptVolunteers$Trick;)I" } : Jvm.MethodName) ({ cls := "KeptVolunteers$Troupe", name := "suitedFor", desc := "(LKeptVolunteers$Trick;)I" } : Jvm.MethodName)) ∈ kv_W := kv_t3 (i := 44) (by decide +kernel) (by decide +kernel)
theorem kw3_45 : (Jvm.Cond.code ({ cls := "KeptVolunteers$Troupe", name := "suitedFor", desc := "(LKeptVolunteers$Trick;)I" } : Jvm.MethodName) prog_11_method_5_code (4 : Nat) (Option.some Jvm.ClassFile.FieldType.int)) ∈ kv_W := kv_t3 (i := 45) (by decide +kernel) (by decide +kernel)
theorem kw3_47 : (Jvm.Cond.methodLink "KeptVolunteers$Troupe" (71 : Nat) ({ cls := "KeptVolunteers$Trick", name := "suits", desc := "(I)Z" } : Jvm.MethodName)) ∈ kv_W := kv_t3 (i := 47) (by decide +kernel) (by decide +kernel)
theorem kw3_48 : (Jvm.Cond.methodLink "KeptVolunteers" (118 : Nat) ({ cls := "KeptVolunteers$Bill", name := "clashesOf", desc := "(I)I" } : Jvm.MethodName)) ∈ kv_W := kv_t3 (i := 48) (by decide +kernel) (by decide +kernel)
theorem kw3_49 : (Jvm.Cond.instanceMethod ({ cls := "KeptVolunteers$Bill", name := "clashesOf", desc := "(I)I" } : Jvm.MethodName)) ∈ kv_W := kv_t3 (i := 49) (by decide +kernel) (by decide +kernel)
theorem kw3_50 : (Jvm.Cond.selects "KeptVolunteers$Bill" ({ cls := "KeptVolunteers$Bill", name := "clashesOf", desc := "(I)I" } : Jvm.MethodName) ({ cls := "KeptVolunteers$Bill", name := "clashesOf", desc := "(I)I" } : Jvm.MethodName)) ∈ kv_W := kv_t3 (i := 50) (by decide +kernel) (by decide +kernel)
theorem kw3_51 : (Jvm.Cond.code ({ cls := "KeptVolunteers$Bill", name := "clashesOf", desc := "(I)I" } : Jvm.MethodName) prog_2_method_2_code (4 : Nat) (Option.some Jvm.ClassFile.FieldType.int)) ∈ kv_W := kv_t3 (i := 51) (by decide +kernel) (by decide +kernel)
theorem kw3_52 : (Jvm.Cond.methodLink "KeptVolunteers$Bill" (19 : Nat) ({ cls := "KeptVolunteers$Trick", name := "busyHours", desc := "()I" } : Jvm.MethodName)) ∈ kv_W := kv_t3 (i := 52) (by decide +kernel) (by decide +kernel)
theorem kw3_53 : (Jvm.Cond.instanceMethod ({ cls := "KeptVolunteers$Trick", name := "busyHours", desc := "()I" } : Jvm.MethodName)) ∈ kv_W := kv_t3 (i := 53) (by decide +kernel) (by decide +kernel)
theorem kw3_54 : (Jvm.Cond.selects "KeptVolunteers$Trick" ({ cls := "KeptVolunteers$Trick", name := "busyHours", desc := "()I" } : Jvm.MethodName) ({ cls := "KeptVolunteers$Trick", name := "busyHours", desc := "()I" } : Jvm.MethodName)) ∈ kv_W := kv_t3 (i := 54) (by decide +kernel) (by decide +kernel)
theorem kw3_55 : (Jvm.Cond.sameMethod "KeptVolunteers$Trick" "KeptVolunteers$Trick" "busyHours" "()I") ∈ kv_W := kv_t3 (i := 55) (by decide +kernel) (by decide +kernel)
theorem kw3_56 : (Jvm.Cond.selects "KeptVolunteers$LongTrick" ({ cls := "KeptVolunteers$Trick", name := "busyHours", desc := "()I" } : Jvm.MethodName) ({ cls := "KeptVolunteers$Trick", name := "busyHours", desc := "()I" } : Jvm.MethodName)) ∈ kv_W := kv_t3 (i := 56) (by decide +kernel) (by decide +kernel)
theorem kw3_57 : (Jvm.Cond.selects "KeptVolunteers$Pair" ({ cls := "KeptVolunteers$Trick", name := "busyHours", desc := "()I" } : Jvm.MethodName) ({ cls := "KeptVolunteers$Trick", name := "busyHours", desc := "()I" } : Jvm.MethodName)) ∈ kv_W := kv_t3 (i := 57) (by decide +kernel) (by decide +kernel)
theorem kw3_58 : (Jvm.Cond.selects "KeptVolunteers$Rope" ({ cls := "KeptVolunteers$Trick", name := "busyHours", desc := "()I" } : Jvm.MethodName) ({ cls := "KeptVolunteers$Trick", name := "busyHours", desc := "()I" } : Jvm.MethodName)) ∈ kv_W := kv_t3 (i := 58) (by decide +kernel) (by decide +kernel)
theorem kw3_59 : (Jvm.Cond.selects "KeptVolunteers$Saw" ({ cls := "KeptVolunteers$Trick", name := "busyHours", desc := "()I" } : Jvm.MethodName) ({ cls := "KeptVolunteers$Trick", name := "busyHours", desc := "()I" } : Jvm.MethodName)) ∈ kv_W := kv_t3 (i := 59) (by decide +kernel) (by decide +kernel)
theorem kw3_60 : (Jvm.Cond.code ({ cls := "KeptVolunteers$Trick", name := "busyHours", desc := "()I" } : Jvm.MethodName) prog_10_method_8_code (1 : Nat) (Option.some Jvm.ClassFile.FieldType.int)) ∈ kv_W := kv_t3 (i := 60) (by decide +kernel) (by decide +kernel)
theorem kw3_61 : (Jvm.Cond.methodLink "KeptVolunteers$Trick" (21 : Nat) ({ cls := "KeptVolunteers$Trick", name := "restHours", desc := "()I" } : Jvm.MethodName)) ∈ kv_W := kv_t3 (i := 61) (by decide +kernel) (by decide +kernel)
theorem kw3_62 : (Jvm.Cond.instanceMethod ({ cls := "KeptVolunteers$Trick", name := "restHours", desc := "()I" } : Jvm.MethodName)) ∈ kv_W := kv_t3 (i := 62) (by decide +kernel) (by decide +kernel)
theorem kw3_63 : (Jvm.Cond.selects "KeptVolunteers$Trick" ({ cls := "KeptVolunteers$Trick", name := "restHours", desc := "()I" } : Jvm.MethodName) ({ cls := "KeptVolunteers$Trick", name := "restHours", desc := "()I" } : Jvm.MethodName)) ∈ kv_W := kv_t3 (i := 63) (by decide +kernel) (by decide +kernel)
theorem kw3_64 : (Jvm.Cond.sameMethod "KeptVolunteers$Trick" "KeptVolunteers$Trick" "restHours" "()I") ∈ kv_W := kv_t3 (i := 64) (by decide +kernel) (by decide +kernel)
theorem kw3_65 : (Jvm.Cond.selects "KeptVolunteers$LongTrick" ({ cls := "KeptVolunteers$Trick", name := "restHours", desc := "()I" } : Jvm.MethodName) ({ cls := "KeptVolunteers$LongTrick", name := "restHours", desc := "()I" } : Jvm.MethodName)) ∈ kv_W := kv_t3 (i := 65) (by decide +kernel) (by decide +kernel)
theorem kw3_66 : (Jvm.Cond.instanceMethod ({ cls := "KeptVolunteers$LongTrick", name := "restHours", desc := "()I" } : Jvm.MethodName)) ∈ kv_W := kv_t3 (i := 66) (by decide +kernel) (by decide +kernel)
theorem kw3_67 : (Jvm.Cond.code ({ cls := "KeptVolunteers$LongTrick", name := "restHours", desc := "()I" } : Jvm.MethodName) prog_3_method_3_code (1 : Nat) (Option.some Jvm.ClassFile.FieldType.int)) ∈ kv_W := kv_t3 (i := 67) (by decide +kernel) (by decide +kernel)
theorem kw3_68 : (Jvm.Cond.selects "KeptVolunteers$Pair" ({ cls := "KeptVolunteers$Trick", name := "restHours", desc := "()I" } : Jvm.MethodName) ({ cls := "KeptVolunteers$Trick", name := "restHours", desc := "()I" } : Jvm.MethodName)) ∈ kv_W := kv_t3 (i := 68) (by decide +kernel) (by decide +kernel)
theorem kw3_69 : (Jvm.Cond.selects "KeptVolunteers$Rope" ({ cls := "KeptVolunteers$Trick", name := "restHours", desc := "()I" } : Jvm.MethodName) ({ cls := "KeptVolunteers$Trick", name := "restHours", desc := "()I" } : Jvm.MethodName)) ∈ kv_W := kv_t3 (i := 69) (by decide +kernel) (by decide +kernel)
theorem kw3_70 : (Jvm.Cond.selects "KeptVolunteers$Saw" ({ cls := "KeptVolunteers$Trick", name := "restHours", desc := "()I" } : Jvm.MethodName) ({ cls := "KeptVolunteers$Trick", name := "restHours", desc := "()I" } : Jvm.MethodName)) ∈ kv_W := kv_t3 (i := 70) (by decide +kernel) (by decide +kernel)
theorem kw3_71 : (Jvm.Cond.code ({ cls := "KeptVolunteers$Trick", name := "restHours", desc := "()I" } : Jvm.MethodName) prog_10_method_4_code (1 : Nat) (Option.some Jvm.ClassFile.FieldType.int)) ∈ kv_W := kv_t3 (i := 71) (by decide +kernel) (by decide +kernel)
theorem kw3_72 : (Jvm.Cond.methodLink "KeptVolunteersLaw" (36 : Nat) ({ cls := "KeptVolunteers", name := "as", desc := "(II)I" } : Jvm.MethodName)) ∈ kv_W := kv_t3 (i := 72) (by decide +kernel) (by decide +kernel)
theorem kw3_73 : (Jvm.Cond.instanceMethod ({ cls := "KeptVolunteers", name := "as", desc := "(II)I" } : Jvm.MethodName)) ∈ kv_W := kv_t3 (i := 73) (by decide +kernel) (by decide +kernel)
theorem kw3_74 : (Jvm.Cond.selects "KeptVolunteers" ({ cls := "KeptVolunteers", name := "as", desc := "(II)I" } : Jvm.MethodName) ({ cls := "KeptVolunteers", name := "as", desc := "(II)I" } : Jvm.MethodName)) ∈ kv_W := kv_t3 (i := 74) (by decide +kernel) (by decide +kernel)
theorem kw3_75 : (Jvm.Cond.code ({ cls := "KeptVolunteers", name := "as", desc := "(II)I" } : Jvm.MethodName) prog_1_method_7_code (3 : Nat) (Option.some Jvm.ClassFile.FieldType.int)) ∈ kv_W := kv_t3 (i := 75) (by decide +kernel) (by decide +kernel)
theorem kw3_76 : (Jvm.Cond.methodLink "KeptVolunteers" (122 : Nat) ({ cls := "KeptVolunteers", name := "isOfKind", desc := "(LKeptVolunteers$Trick;I)Z" } : Jvm.MethodName)) ∈ kv_W := kv_t3 (i := 76) (by decide +kernel) (by decide +kernel)
theorem kw3_77 : (Jvm.Cond.static ({ cls := "KeptVolunteers", name := "isOfKind", desc := "(LKeptVolunteers$Trick;I)Z" } : Jvm.MethodName)) ∈ kv_W := kv_t3 (i := 77) (by decide +kernel) (by decide +kernel)
theorem kw3_78 : (Jvm.Cond.code ({ cls := "KeptVolunteers", name := "isOfKind", desc := "(LKeptVolunteers$Trick;I)Z" } : Jvm.MethodName) prog_1_method_38_code (2 : Nat) (Option.some Jvm.ClassFile.FieldType.boolean)) ∈ kv_W := kv_t3 (i := 78) (by decide +kernel) (by decide +kernel)
theorem kw3_79 : (Jvm.Cond.classLink "KeptVolunteers" (303 : Nat) "KeptVolunteers$Pair") ∈ kv_W := kv_t3 (i := 79) (by decide +kernel) (by decide +kernel)
theorem kw3_80 : (Jvm.Cond.classLink "KeptVolunteers" (305 : Nat) "KeptVolunteers$Saw") ∈ kv_W := kv_t3 (i := 80) (by decide +kernel) (by decide +kernel)
theorem kw3_81 : (Jvm.Cond.classLink "KeptVolunteers" (307 : Nat) "KeptVolunteers$LongTrick") ∈ kv_W := kv_t3 (i := 81) (by decide +kernel) (by decide +kernel)
theorem kw3_82 : (Jvm.Cond.classLink "KeptVolunteers" (309 : Nat) "KeptVolunteers$Rope") ∈ kv_W := kv_t3 (i := 82) (by decide +kernel) (by decide +kernel)
theorem kw3_83 : (Jvm.Cond.methodLink "KeptVolunteersLaw" (40 : Nat) ({ cls := "KeptVolunteers", name := "person", desc := "(II)I" } : Jvm.MethodName)) ∈ kv_W := kv_t3 (i := 83) (by decide +kernel) (by decide +kernel)
theorem kw3_84 : (Jvm.Cond.instanceMethod ({ cls := "KeptVolunteers", name := "person", desc := "(II)I" } : Jvm.MethodName)) ∈ kv_W := kv_t3 (i := 84) (by decide +kernel) (by decide +kernel)
theorem kw3_85 : (Jvm.Cond.selects "KeptVolunteers" ({ cls := "KeptVolunteers", name := "person", desc := "(II)I" } : Jvm.MethodName) ({ cls := "KeptVolunteers", name := "person", desc := "(II)I" } : Jvm.MethodName)) ∈ kv_W := kv_t3 (i := 85) (by decide +kernel) (by decide +kernel)
theorem kw3_86 : (Jvm.Cond.code ({ cls := "KeptVolunteers", name := "person", desc := "(II)I" } : Jvm.MethodName) prog_1_method_8_code (4 : Nat) (Option.some Jvm.ClassFile.FieldType.int)) ∈ kv_W := kv_t3 (i := 86) (by decide +kernel) (by decide +kernel)
theorem kw3_87 : (Jvm.Cond.methodLink "KeptVolunteers" (126 : Nat) ({ cls := "KeptVolunteers", name := "isNumber", desc := "(I)Z" } : Jvm.MethodName)) ∈ kv_W := kv_t3 (i := 87) (by decide +kernel) (by decide +kernel)
theorem kw3_89 : (Jvm.Cond.instanceMethod ({ cls := "KeptVolunteers", name := "isNumber", desc := "(I)Z" } : Jvm.MethodName)) ∈ kv_W := kv_t3 (i := 89) (by decide +kernel) (by decide +kernel)
theorem kw3_90 : (Jvm.Cond.code ({ cls := "KeptVolunteers", name := "isNumber", desc := "(I)Z" } : Jvm.MethodName) prog_1_method_32_code (2 : Nat) (Option.some Jvm.ClassFile.FieldType.boolean)) ∈ kv_W := kv_t3 (i := 90) (by decide +kernel) (by decide +kernel)
theorem kw3_91 : (Jvm.Cond.methodLink "KeptVolunteers" (132 : Nat) ({ cls := "KeptVolunteers", name := "has", desc := "(II)Z" } : Jvm.MethodName)) ∈ kv_W := kv_t3 (i := 91) (by decide +kernel) (by decide +kernel)
theorem kw3_92 : (Jvm.Cond.methodLink "KeptVolunteers" (142 : Nat) ({ cls := "KeptVolunteers$Troupe", name := "tricksOf", desc := "(I)I" } : Jvm.MethodName)) ∈ kv_W := kv_t3 (i := 92) (by decide +kernel) (by decide +kernel)
theorem kw3_93 : (Jvm.Cond.instanceMethod ({ cls := "KeptVolunteers$Troupe", name := "tricksOf", desc := "(I)I" } : Jvm.MethodName)) ∈ kv_W := kv_t3 (i := 93) (by decide +kernel) (by decide +kernel)
theorem kw3_94 : (Jvm.Cond.selects "KeptVolunteers$Troupe" ({ cls := "KeptVolunteers$Troupe", name := "tricksOf", desc := "(I)I" } : Jvm.MethodName) ({ cls := "KeptVolunteers$Troupe", name := "tricksOf", desc := "(I)I" } : Jvm.MethodName)) ∈ kv_W := kv_t3 (i := 94) (by decide +kernel) (by decide +kernel)
theorem kw3_95 : (Jvm.Cond.code ({ cls := "KeptVolunteers$Troupe", name := "tricksOf", desc := "(I)I" } : Jvm.MethodName) prog_11_method_4_code (4 : Nat) (Option.some Jvm.ClassFile.FieldType.int)) ∈ kv_W := kv_t3 (i := 95) (by decide +kernel) (by decide +kernel)
theorem kw3_96 : (Jvm.Cond.methodLink "KeptVolunteers" (145 : Nat) ({ cls := "KeptVolunteers$Bill", name := "busyHoursOf", desc := "(I)I" } : Jvm.MethodName)) ∈ kv_W := kv_t3 (i := 96) (by decide +kernel) (by decide +kernel)
theorem kw3_97 : (Jvm.Cond.instanceMethod ({ cls := "KeptVolunteers$Bill", name := "busyHoursOf", desc := "(I)I" } : Jvm.MethodName)) ∈ kv_W := kv_t3 (i := 97) (by decide +kernel) (by decide +kernel)
theorem kw3_98 : (Jvm.Cond.selects "KeptVolunteers$Bill" ({ cls := "KeptVolunteers$Bill", name := "busyHoursOf", desc := "(I)I" } : Jvm.MethodName) ({ cls := "KeptVolunteers$Bill", name := "busyHoursOf", desc := "(I)I" } : Jvm.MethodName)) ∈ kv_W := kv_t3 (i := 98) (by decide +kernel) (by decide +kernel)
theorem kw3_99 : (Jvm.Cond.code ({ cls := "KeptVolunteers$Bill", name := "busyHoursOf", desc := "(I)I" } : Jvm.MethodName) prog_2_method_4_code (4 : Nat) (Option.some Jvm.ClassFile.FieldType.int)) ∈ kv_W := kv_t3 (i := 99) (by decide +kernel) (by decide +kernel)
theorem kw3_100 : (Jvm.Cond.methodLink "KeptVolunteers" (151 : Nat) ({ cls := "KeptVolunteers$Troupe", name := "strongsOf", desc := "(I)I" } : Jvm.MethodName)) ∈ kv_W := kv_t3 (i := 100) (by decide +kernel) (by decide +kernel)
theorem kw3_101 : (Jvm.Cond.instanceMethod ({ cls := "KeptVolunteers$Troupe", name := "strongsOf", desc := "(I)I" } : Jvm.MethodName)) ∈ kv_W := kv_t3 (i := 101) (by decide +kernel) (by decide +kernel)
theorem kw3_102 : (Jvm.Cond.selects "KeptVolunteers$Troupe" ({ cls := "KeptVolunteers$Troupe", name := "strongsOf", desc := "(I)I" } : Jvm.MethodName) ({ cls := "KeptVolunteers$Troupe", name := "strongsOf", desc := "(I)I" } : Jvm.MethodName)) ∈ kv_W := kv_t3 (i := 102) (by decide +kernel) (by decide +kernel)
theorem kw3_103 : (Jvm.Cond.code ({ cls := "KeptVolunteers$Troupe", name := "strongsOf", desc := "(I)I" } : Jvm.MethodName) prog_11_method_11_code (4 : Nat) (Option.some Jvm.ClassFile.FieldType.int)) ∈ kv_W := kv_t3 (i := 103) (by decide +kernel) (by decide +kernel)
theorem kw3_104 : (Jvm.Cond.methodLink "KeptVolunteers" (154 : Nat) ({ cls := "KeptVolunteers$Bill", name := "trickToTry", desc := "(I)I" } : Jvm.MethodName)) ∈ kv_W := kv_t3 (i := 104) (by decide +kernel) (by decide +kernel)
theorem kw3_105 : (Jvm.Cond.instanceMethod ({ cls := "KeptVolunteers$Bill", name := "trickToTry", desc := "(I)I" } : Jvm.MethodName)) ∈ kv_W := kv_t3 (i := 105) (by decide +kernel) (by decide +kernel)
theorem kw3_106 : (Jvm.Cond.selects "KeptVolunteers$Bill" ({ cls := "KeptVolunteers$Bill", name := "trickToTry", desc := "(I)I" } : Jvm.MethodName) ({ cls := "KeptVolunteers$Bill", name := "trickToTry", desc := "(I)I" } : Jvm.MethodName)) ∈ kv_W := kv_t3 (i := 106) (by decide +kernel) (by decide +kernel)
theorem kw3_107 : (Jvm.Cond.code ({ cls := "KeptVolunteers$Bill", name := "trickToTry", desc := "(I)I" } : Jvm.MethodName) prog_2_method_7_code (7 : Nat) (Option.some Jvm.ClassFile.FieldType.int)) ∈ kv_W := kv_t3 (i := 107) (by decide +kernel) (by decide +kernel)
theorem kw3_108 : (Jvm.Cond.methodLink "KeptVolunteers$Bill" (57 : Nat) ({ cls := "KeptVolunteers$Trick", name := "suitedStrongs", desc := "()I" } : Jvm.MethodName)) ∈ kv_W := kv_t3 (i := 108) (by decide +kernel) (by decide +kernel)
theorem kw3_109 : (Jvm.Cond.instanceMethod ({ cls := "KeptVolunteers$Trick", name := "suitedStrongs", desc := "()I" } : Jvm.MethodName)) ∈ kv_W := kv_t3 (i := 109) (by decide +kernel) (by decide +kernel)
theorem kw3_110 : (Jvm.Cond.selects "KeptVolunteers$Trick" ({ cls := "KeptVolunteers$Trick", name := "suitedStrongs", desc := "()I" } : Jvm.MethodName) ({ cls := "KeptVolunteers$Trick", name := "suitedStrongs", desc := "()I" } : Jvm.MethodName)) ∈ kv_W := kv_t3 (i := 110) (by decide +kernel) (by decide +kernel)
theorem kw3_111 : (Jvm.Cond.sameMethod "KeptVolunteers$Trick" "KeptVolunteers$Trick" "suitedStrongs" "()I") ∈ kv_W := kv_t3 (i := 111) (by decide +kernel) (by decide +kernel)
theorem kw3_112 : (Jvm.Cond.selects "KeptVolunteers$LongTrick" ({ cls := "KeptVolunteers$Trick", name := "suitedStrongs", desc := "()I" } : Jvm.MethodName) ({ cls := "KeptVolunteers$Trick", name := "suitedStrongs", desc := "()I" } : Jvm.MethodName)) ∈ kv_W := kv_t3 (i := 112) (by decide +kernel) (by decide +kernel)
theorem kw3_113 : (Jvm.Cond.selects "KeptVolunteers$Pair" ({ cls := "KeptVolunteers$Trick", name := "suitedStrongs", desc := "()I" } : Jvm.MethodName) ({ cls := "KeptVolunteers$Trick", name := "suitedStrongs", desc := "()I" } : Jvm.MethodName)) ∈ kv_W := kv_t3 (i := 113) (by decide +kernel) (by decide +kernel)
theorem kw3_114 : (Jvm.Cond.selects "KeptVolunteers$Rope" ({ cls := "KeptVolunteers$Trick", name := "suitedStrongs", desc := "()I" } : Jvm.MethodName) ({ cls := "KeptVolunteers$Trick", name := "suitedStrongs", desc := "()I" } : Jvm.MethodName)) ∈ kv_W := kv_t3 (i := 114) (by decide +kernel) (by decide +kernel)
theorem kw3_115 : (Jvm.Cond.selects "KeptVolunteers$Saw" ({ cls := "KeptVolunteers$Trick", name := "suitedStrongs", desc := "()I" } : Jvm.MethodName) ({ cls := "KeptVolunteers$Trick", name := "suitedStrongs", desc := "()I" } : Jvm.MethodName)) ∈ kv_W := kv_t3 (i := 115) (by decide +kernel) (by decide +kernel)
theorem kw3_116 : (Jvm.Cond.code ({ cls := "KeptVolunteers$Trick", name := "suitedStrongs", desc := "()I" } : Jvm.MethodName) prog_10_method_9_code (3 : Nat) (Option.some Jvm.ClassFile.FieldType.int)) ∈ kv_W := kv_t3 (i := 116) (by decide +kernel) (by decide +kernel)
theorem kw3_117 : (Jvm.Cond.methodLink "KeptVolunteers$Trick" (25 : Nat) ({ cls := "KeptVolunteers$Trick", name := "suits", desc := "(I)Z" } : Jvm.MethodName)) ∈ kv_W := kv_t3 (i := 117) (by decide +kernel) (by decide +kernel)
theorem kw3_118 : (Jvm.Cond.methodLink "KeptVolunteers$Bill" (51 : Nat) ({ cls := "java/lang/Math", name := "max", desc := "(II)I" } : Jvm.MethodName)) ∈ kv_W := kv_t3 (i := 118) (by decide +kernel) (by decide +kernel)
theorem kw3_119 : (Jvm.Cond.methodLink "KeptVolunteersLaw" (44 : Nat) ({ cls := "KeptVolunteers", name := "cast", desc := "(II)I" } : Jvm.MethodName)) ∈ kv_W := kv_t3 (i := 119) (by decide +kernel) (by decide +kernel)
theorem kw3_120 : (Jvm.Cond.instanceMethod ({ cls := "KeptVolunteers", name := "cast", desc := "(II)I" } : Jvm.MethodName)) ∈ kv_W := kv_t3 (i := 120) (by decide +kernel) (by decide +kernel)
theorem kw3_121 : (Jvm.Cond.selects "KeptVolunteers" ({ cls := "KeptVolunteers", name := "cast", desc := "(II)I" } : Jvm.MethodName) ({ cls := "KeptVolunteers", name := "cast", desc := "(II)I" } : Jvm.MethodName)) ∈ kv_W := kv_t3 (i := 121) (by decide +kernel) (by decide +kernel)
theorem kw3_122 : (Jvm.Cond.code ({ cls := "KeptVolunteers", name := "cast", desc := "(II)I" } : Jvm.MethodName) prog_1_method_9_code (3 : Nat) (Option.some Jvm.ClassFile.FieldType.int)) ∈ kv_W := kv_t3 (i := 122) (by decide +kernel) (by decide +kernel)
theorem kw3_123 : (Jvm.Cond.methodLink "KeptVolunteers" (157 : Nat) ({ cls := "KeptVolunteers", name := "mayBeCast", desc := "(II)Z" } : Jvm.MethodName)) ∈ kv_W := kv_t3 (i := 123) (by decide +kernel) (by decide +kernel)
theorem kw3_125 : (Jvm.Cond.instanceMethod ({ cls := "KeptVolunteers", name := "mayBeCast", desc := "(II)Z" } : Jvm.MethodName)) ∈ kv_W := kv_t3 (i := 125) (by decide +kernel) (by decide +kernel)
theorem kw3_126 : (Jvm.Cond.code ({ cls := "KeptVolunteers", name := "mayBeCast", desc := "(II)Z" } : Jvm.MethodName) prog_1_method_35_code (4 : Nat) (Option.some Jvm.ClassFile.FieldType.boolean)) ∈ kv_W := kv_t3 (i := 126) (by decide +kernel) (by decide +kernel)
theorem kw3_127 : (Jvm.Cond.methodLink "KeptVolunteers" (160 : Nat) ({ cls := "java/lang/Integer", name := "bitCount", desc := "(I)I" } : Jvm.MethodName)) ∈ kv_W := kv_t3 (i := 127) (by decide +kernel) (by decide +kernel)
theorem kw3_128 : (Jvm.Cond.methodLink "KeptVolunteersLaw" (48 : Nat) ({ cls := "KeptVolunteers", name := "drop", desc := "(II)I" } : Jvm.MethodName)) ∈ kv_W := kv_t3 (i := 128) (by decide +kernel) (by decide +kernel)
theorem kw3_129 : (Jvm.Cond.instanceMethod ({ cls := "KeptVolunteers", name := "drop", desc := "(II)I" } : Jvm.MethodName)) ∈ kv_W := kv_t3 (i := 129) (by decide +kernel) (by decide +kernel)
theorem kw3_130 : (Jvm.Cond.selects "KeptVolunteers" ({ cls := "KeptVolunteers", name := "drop", desc := "(II)I" } : Jvm.MethodName) ({ cls := "KeptVolunteers", name := "drop", desc := "(II)I" } : Jvm.MethodName)) ∈ kv_W := kv_t3 (i := 130) (by decide +kernel) (by decide +kernel)
theorem kw3_131 : (Jvm.Cond.code ({ cls := "KeptVolunteers", name := "drop", desc := "(II)I" } : Jvm.MethodName) prog_1_method_10_code (3 : Nat) (Option.some Jvm.ClassFile.FieldType.int)) ∈ kv_W := kv_t3 (i := 131) (by decide +kernel) (by decide +kernel)
theorem kw3_132 : (Jvm.Cond.methodLink "KeptVolunteersLaw" (52 : Nat) ({ cls := "KeptVolunteers", name := "clear", desc := "()I" } : Jvm.MethodName)) ∈ kv_W := kv_t3 (i := 132) (by decide +kernel) (by decide +kernel)
theorem kw3_133 : (Jvm.Cond.instanceMethod ({ cls := "KeptVolunteers", name := "clear", desc := "()I" } : Jvm.MethodName)) ∈ kv_W := kv_t3 (i := 133) (by decide +kernel) (by decide +kernel)
theorem kw3_134 : (Jvm.Cond.selects "KeptVolunteers" ({ cls := "KeptVolunteers", name := "clear", desc := "()I" } : Jvm.MethodName) ({ cls := "KeptVolunteers", name := "clear", desc := "()I" } : Jvm.MethodName)) ∈ kv_W := kv_t3 (i := 134) (by decide +kernel) (by decide +kernel)
theorem kw3_135 : (Jvm.Cond.code ({ cls := "KeptVolunteers", name := "clear", desc := "()I" } : Jvm.MethodName) prog_1_method_11_code (3 : Nat) (Option.some Jvm.ClassFile.FieldType.int)) ∈ kv_W := kv_t3 (i := 135) (by decide +kernel) (by decide +kernel)
theorem kw3_136 : (Jvm.Cond.methodLink "KeptVolunteersLaw" (56 : Nat) ({ cls := "KeptVolunteers", name := "fill", desc := "()I" } : Jvm.MethodName)) ∈ kv_W := kv_t3 (i := 136) (by decide +kernel) (by decide +kernel)
theorem kw3_137 : (Jvm.Cond.instanceMethod ({ cls := "KeptVolunteers", name := "fill", desc := "()I" } : Jvm.MethodName)) ∈ kv_W := kv_t3 (i := 137) (by decide +kernel) (by decide +kernel)
theorem kw3_138 : (Jvm.Cond.selects "KeptVolunteers" ({ cls := "KeptVolunteers", name := "fill", desc := "()I" } : Jvm.MethodName) ({ cls := "KeptVolunteers", name := "fill", desc := "()I" } : Jvm.MethodName)) ∈ kv_W := kv_t3 (i := 138) (by decide +kernel) (by decide +kernel)
theorem kw3_139 : (Jvm.Cond.code ({ cls := "KeptVolunteers", name := "fill", desc := "()I" } : Jvm.MethodName) prog_1_method_12_code (3 : Nat) (Option.some Jvm.ClassFile.FieldType.int)) ∈ kv_W := kv_t3 (i := 139) (by decide +kernel) (by decide +kernel)
theorem kw3_140 : (Jvm.Cond.methodLink "KeptVolunteers" (165 : Nat) ({ cls := "KeptVolunteers", name := "hasShow", desc := "()Z" } : Jvm.MethodName)) ∈ kv_W := kv_t3 (i := 140) (by decide +kernel) (by decide +kernel)
theorem kw3_142 : (Jvm.Cond.instanceMethod ({ cls := "KeptVolunteers", name := "hasShow", desc := "()Z" } : Jvm.MethodName)) ∈ kv_W := kv_t3 (i := 142) (by decide +kernel) (by decide +kernel)
theorem kw3_143 : (Jvm.Cond.code ({ cls := "KeptVolunteers", name := "hasShow", desc := "()Z" } : Jvm.MethodName) prog_1_method_30_code (1 : Nat) (Option.some Jvm.ClassFile.FieldType.boolean)) ∈ kv_W := kv_t3 (i := 143) (by decide +kernel) (by decide +kernel)
theorem kw3_144 : (Jvm.Cond.methodLink "KeptVolunteers" (171 : Nat) ({ cls := "KeptVolunteers", name := "planMost", desc := "()I" } : Jvm.MethodName)) ∈ kv_W := kv_t3 (i := 144) (by decide +kernel) (by decide +kernel)
theorem kw3_146 : (Jvm.Cond.instanceMethod ({ cls := "KeptVolunteers", name := "planMost", desc := "()I" } : Jvm.MethodName)) ∈ kv_W := kv_t3 (i := 146) (by decide +kernel) (by decide +kernel)
theorem kw3_147 : (Jvm.Cond.code ({ cls := "KeptVolunteers", name := "planMost", desc := "()I" } : Jvm.MethodName) prog_1_method_36_code (1 : Nat) (Option.some Jvm.ClassFile.FieldType.int)) ∈ kv_W := kv_t3 (i := 147) (by decide +kernel) (by decide +kernel)
theorem kw3_148 : (Jvm.Cond.methodLink "KeptVolunteers" (209 : Nat) ({ cls := "KeptVolunteers$Planner", name := "prepare", desc := "(LKeptVolunteers$Bill;[I)V" } : Jvm.MethodName)) ∈ kv_W := kv_t3 (i := 148) (by decide +kernel) (by decide +kernel)
theorem kw3_149 : (Jvm.Cond.instanceMethod ({ cls := "KeptVolunteers$Planner", name := "prepare", desc := "(LKeptVolunteers$Bill;[I)V" } : Jvm.MethodName)) ∈ kv_W := kv_t3 (i := 149) (by decide +kernel) (by decide +kernel)
theorem kw3_150 : (Jvm.Cond.selects "KeptVolunteers$Planner" ({ cls := "KeptVolunteers$Planner", name := "prepare", desc := "(LKeptVolunteers$Bill;[I)V" } : Jvm.MethodName) ({ cls := "KeptVolunteers$Planner", name := "prepare", desc := "(LKeptVolunteers$Bill;[I)V" } : Jvm.MethodName)) ∈ kv_W := kv_t3 (i := 150) (by decide +kernel) (by decide +kernel)
theorem kw3_151 : (Jvm.Cond.code ({ cls := "KeptVolunteers$Planner", name := "prepare", desc := "(LKeptVolunteers$Bill;[I)V" } : Jvm.MethodName) prog_6_method_2_code (5 : Nat) (Option.none : Option Jvm.ClassFile.FieldType)) ∈ kv_W := kv_t3 (i := 151) (by decide +kernel) (by decide +kernel)
theorem kw3_152 : (Jvm.Cond.methodLink "KeptVolunteers$Planner" (33 : Nat) ({ cls := "java/lang/Math", name := "min", desc := "(II)I" } : Jvm.MethodName)) ∈ kv_W := kv_t3 (i := 152) (by decide +kernel) (by decide +kernel)
theorem kw3_153 : (Jvm.Cond.methodLink "KeptVolunteers$Planner" (42 : Nat) ({ cls := "KeptVolunteers$Bill", name := "clashesOf", desc := "(I)I" } : Jvm.MethodName)) ∈ kv_W := kv_t3 (i := 153) (by decide +kernel) (by decide +kernel)
theorem kw3_154 : (Jvm.Cond.methodLink "KeptVolunteers$Planner" (46 : Nat) ({ cls := "KeptVolunteers$Bill", name := "isDoneBy", desc := "(II[I)Z" } : Jvm.MethodName)) ∈ kv_W := kv_t3 (i := 154) (by decide +kernel) (by decide +kernel)
theorem kw3_155 : (Jvm.Cond.methodLink "KeptVolunteers" (300 : Nat) ({ cls := "KeptVolunteers$Planner", name := "search", desc := "(II)I" } : Jvm.MethodName)) ∈ kv_W := kv_t3 (i := 155) (by decide +kernel) (by decide +kernel)
theorem kw3_156 : (Jvm.Cond.instanceMethod ({ cls := "KeptVolunteers$Planner", name := "search", desc := "(II)I" } : Jvm.MethodName)) ∈ kv_W := kv_t3 (i := 156) (by decide +kernel) (by decide +kernel)
theorem kw3_157 : (Jvm.Cond.selects "KeptVolunteers$Planner" ({ cls := "KeptVolunteers$Planner", name := "search", desc := "(II)I" } : Jvm.MethodName) ({ cls := "KeptVolunteers$Planner", name := "search", desc := "(II)I" } : Jvm.MethodName)) ∈ kv_W := kv_t3 (i := 157) (by decide +kernel) (by decide +kernel)
theorem kw3_158 : (Jvm.Cond.code ({ cls := "KeptVolunteers$Planner", name := "search", desc := "(II)I" } : Jvm.MethodName) prog_6_method_3_code (3 : Nat) (Option.some Jvm.ClassFile.FieldType.int)) ∈ kv_W := kv_t3 (i := 158) (by decide +kernel) (by decide +kernel)
theorem kw3_159 : (Jvm.Cond.methodLink "KeptVolunteers$Planner" (56 : Nat) ({ cls := "java/util/Arrays", name := "fill", desc := "([II)V" } : Jvm.MethodName)) ∈ kv_W := kv_t3 (i := 159) (by decide +kernel) (by decide +kernel)
theorem kw3_160 : (Jvm.Cond.methodLink "KeptVolunteers$Planner" (62 : Nat) ({ cls := "KeptVolunteers$Planner", name := "choose", desc := "(II)V" } : Jvm.MethodName)) ∈ kv_W := kv_t3 (i := 160) (by decide +kernel) (by decide +kernel)
theorem kw3_162 : (Jvm.Cond.instanceMethod ({ cls := "KeptVolunteers$Planner", name := "choose", desc := "(II)V" } : Jvm.MethodName)) ∈ kv_W := kv_t3 (i := 162) (by decide +kernel) (by decide +kernel)
theorem kw3_163 : (Jvm.Cond.code ({ cls := "KeptVolunteers$Planner", name := "choose", desc := "(II)V" } : Jvm.MethodName) prog_6_method_4_code (5 : Nat) (Option.none : Option Jvm.ClassFile.FieldType)) ∈ kv_W := kv_t3 (i := 163) (by decide +kernel) (by decide +kernel)
theorem kw3_164 : (Jvm.Cond.methodLink "KeptVolunteers$Planner" (66 : Nat) ({ cls := "KeptVolunteers$Planner", name := "stillOpen", desc := "(I)I" } : Jvm.MethodName)) ∈ kv_W := kv_t3 (i := 164) (by decide +kernel) (by decide +kernel)
theorem kw3_166 : (Jvm.Cond.instanceMethod ({ cls := "KeptVolunteers$Planner", name := "stillOpen", desc := "(I)I" } : Jvm.MethodName)) ∈ kv_W := kv_t3 (i := 166) (by decide +kernel) (by decide +kernel)
theorem kw3_167 : (Jvm.Cond.code ({ cls := "KeptVolunteers$Planner", name := "stillOpen", desc := "(I)I" } : Jvm.MethodName) prog_6_method_6_code (4 : Nat) (Option.some Jvm.ClassFile.FieldType.int)) ∈ kv_W := kv_t3 (i := 167) (by decide +kernel) (by decide +kernel)
theorem kw3_168 : (Jvm.Cond.methodLink "KeptVolunteers$Planner" (75 : Nat) ({ cls := "KeptVolunteers$Planner", name := "openWays", desc := "(II)I" } : Jvm.MethodName)) ∈ kv_W := kv_t3 (i := 168) (by decide +kernel) (by decide +kernel)
theorem kw3_170 : (Jvm.Cond.instanceMethod ({ cls := "KeptVolunteers$Planner", name := "openWays", desc := "(II)I" } : Jvm.MethodName)) ∈ kv_W := kv_t3 (i := 170) (by decide +kernel) (by decide +kernel)
theorem kw3_171 : (Jvm.Cond.code ({ cls := "KeptVolunteers$Planner", name := "openWays", desc := "(II)I" } : Jvm.MethodName) prog_6_method_7_code (5 : Nat) (Option.some Jvm.ClassFile.FieldType.int)) ∈ kv_W := kv_t3 (i := 171) (by decide +kernel) (by decide +kernel)
theorem kw3_173 : (Jvm.Cond.methodLink "KeptVolunteers$Planner" (69 : Nat) ({ cls := "java/lang/System", name := "arraycopy", desc := "(Ljava/lang/Object;ILjava/lang/Object;II)V" } : Jvm.MethodName)) ∈ kv_W := kv_t3 (i := 173) (by decide +kernel) (by decide +kernel)
theorem kw3_174 : (Jvm.Cond.static ({ cls := "java/lang/System", name := "arraycopy", desc := "(Ljava/lang/Object;ILjava/lang/Object;II)V" } : Jvm.MethodName)) ∈ kv_W := kv_t3 (i := 174) (by decide +kernel) (by decide +kernel)
theorem kw3_175 : (Jvm.Cond.native ({ cls := "java/lang/System", name := "arraycopy", desc := "(Ljava/lang/Object;ILjava/lang/Object;II)V" } : Jvm.MethodName)) ∈ kv_W := kv_t3 (i := 175) (by decide +kernel) (by decide +kernel)
theorem kw3_176 : (Jvm.Cond.methodLink "KeptVolunteers$Planner" (78 : Nat) ({ cls := "KeptVolunteers$Planner", name := "hindersLater", desc := "(I)Z" } : Jvm.MethodName)) ∈ kv_W := kv_t3 (i := 176) (by decide +kernel) (by decide +kernel)
theorem kw3_178 : (Jvm.Cond.instanceMethod ({ cls := "KeptVolunteers$Planner", name := "hindersLater", desc := "(I)Z" } : Jvm.MethodName)) ∈ kv_W := kv_t3 (i := 178) (by decide +kernel) (by decide +kernel)
theorem kw3_179 : (Jvm.Cond.code ({ cls := "KeptVolunteers$Planner", name := "hindersLater", desc := "(I)Z" } : Jvm.MethodName) prog_6_method_5_code (2 : Nat) (Option.some Jvm.ClassFile.FieldType.boolean)) ∈ kv_W := kv_t3 (i := 179) (by decide +kernel) (by decide +kernel)
theorem kw3_180 : (Jvm.Cond.methodLink "KeptVolunteersLaw" (60 : Nat) ({ cls := "KeptVolunteers", name := "night", desc := "()I" } : Jvm.MethodName)) ∈ kv_W := kv_t3 (i := 180) (by decide +kernel) (by decide +kernel)
theorem kw3_181 : (Jvm.Cond.instanceMethod ({ cls := "KeptVolunteers", name := "night", desc := "()I" } : Jvm.MethodName)) ∈ kv_W := kv_t3 (i := 181) (by decide +kernel) (by decide +kernel)
theorem kw3_182 : (Jvm.Cond.selects "KeptVolunteers" ({ cls := "KeptVolunteers", name := "night", desc := "()I" } : Jvm.MethodName) ({ cls := "KeptVolunteers", name := "night", desc := "()I" } : Jvm.MethodName)) ∈ kv_W := kv_t3 (i := 182) (by decide +kernel) (by decide +kernel)
theorem kw3_183 : (Jvm.Cond.code ({ cls := "KeptVolunteers", name := "night", desc := "()I" } : Jvm.MethodName) prog_1_method_13_code (4 : Nat) (Option.some Jvm.ClassFile.FieldType.int)) ∈ kv_W := kv_t3 (i := 183) (by decide +kernel) (by decide +kernel)
theorem kw3_184 : (Jvm.Cond.methodLink "KeptVolunteers" (180 : Nat) ({ cls := "KeptVolunteers$Troupe", name := "holdRopes", desc := "(I)V" } : Jvm.MethodName)) ∈ kv_W := kv_t3 (i := 184) (by decide +kernel) (by decide +kernel)
theorem kw3_185 : (Jvm.Cond.instanceMethod ({ cls := "KeptVolunteers$Troupe", name := "holdRopes", desc := "(I)V" } : Jvm.MethodName)) ∈ kv_W := kv_t3 (i := 185) (by decide +kernel) (by decide +kernel)
theorem kw3_186 : (Jvm.Cond.selects "KeptVolunteers$Troupe" ({ cls := "KeptVolunteers$Troupe", name := "holdRopes", desc := "(I)V" } : Jvm.MethodName) ({ cls := "KeptVolunteers$Troupe", name := "holdRopes", desc := "(I)V" } : Jvm.MethodName)) ∈ kv_W := kv_t3 (i := 186) (by decide +kernel) (by decide +kernel)
theorem kw3_187 : (Jvm.Cond.code ({ cls := "KeptVolunteers$Troupe", name := "holdRopes", desc := "(I)V" } : Jvm.MethodName) prog_11_method_6_code (3 : Nat) (Option.none : Option Jvm.ClassFile.FieldType)) ∈ kv_W := kv_t3 (i := 187) (by decide +kernel) (by decide +kernel)
theorem kw3_188 : (Jvm.Cond.methodLink "KeptVolunteersLaw" (64 : Nat) ({ cls := "KeptVolunteers", name := "move", desc := "(Z)I" } : Jvm.MethodName)) ∈ kv_W := kv_t3 (i := 188) (by decide +kernel) (by decide +kernel)
theorem kw3_189 : (Jvm.Cond.instanceMethod ({ cls := "KeptVolunteers", name := "move", desc := "(Z)I" } : Jvm.MethodName)) ∈ kv_W := kv_t3 (i := 189) (by decide +kernel) (by decide +kernel)
theorem kw3_190 : (Jvm.Cond.selects "KeptVolunteers" ({ cls := "KeptVolunteers", name := "move", desc := "(Z)I" } : Jvm.MethodName) ({ cls := "KeptVolunteers", name := "move", desc := "(Z)I" } : Jvm.MethodName)) ∈ kv_W := kv_t3 (i := 190) (by decide +kernel) (by decide +kernel)
theorem kw3_191 : (Jvm.Cond.code ({ cls := "KeptVolunteers", name := "move", desc := "(Z)I" } : Jvm.MethodName) prog_1_method_14_code (2 : Nat) (Option.some Jvm.ClassFile.FieldType.int)) ∈ kv_W := kv_t3 (i := 191) (by decide +kernel) (by decide +kernel)
theorem kw3_192 : (Jvm.Cond.methodLink "KeptVolunteers" (190 : Nat) ({ cls := "java/lang/Math", name := "floorMod", desc := "(II)I" } : Jvm.MethodName)) ∈ kv_W := kv_t3 (i := 192) (by decide +kernel) (by decide +kernel)
theorem kw3_193 : (Jvm.Cond.static ({ cls := "java/lang/Math", name := "floorMod", desc := "(II)I" } : Jvm.MethodName)) ∈ kv_W := kv_t3 (i := 193) (by decide +kernel) (by decide +kernel)
theorem kw3_194 : (Jvm.Cond.code ({ cls := "java/lang/Math", name := "floorMod", desc := "(II)I" } : Jvm.MethodName) prog_16_method_50_code (3 : Nat) (Option.some Jvm.ClassFile.FieldType.int)) ∈ kv_W := kv_t3 (i := 194) (by decide +kernel) (by decide +kernel)
theorem kw3_195 : (Jvm.Cond.methodLink "KeptVolunteersLaw" (69 : Nat) ({ cls := "KeptVolunteers", name := "letGo", desc := "(I)I" } : Jvm.MethodName)) ∈ kv_W := kv_t3 (i := 195) (by decide +kernel) (by decide +kernel)
theorem kw3_196 : (Jvm.Cond.instanceMethod ({ cls := "KeptVolunteers", name := "letGo", desc := "(I)I" } : Jvm.MethodName)) ∈ kv_W := kv_t3 (i := 196) (by decide +kernel) (by decide +kernel)
theorem kw3_197 : (Jvm.Cond.selects "KeptVolunteers" ({ cls := "KeptVolunteers", name := "letGo", desc := "(I)I" } : Jvm.MethodName) ({ cls := "KeptVolunteers", name := "letGo", desc := "(I)I" } : Jvm.MethodName)) ∈ kv_W := kv_t3 (i := 197) (by decide +kernel) (by decide +kernel)
theorem kw3_198 : (Jvm.Cond.code ({ cls := "KeptVolunteers", name := "letGo", desc := "(I)I" } : Jvm.MethodName) prog_1_method_15_code (2 : Nat) (Option.some Jvm.ClassFile.FieldType.int)) ∈ kv_W := kv_t3 (i := 198) (by decide +kernel) (by decide +kernel)
theorem kw3_199 : (Jvm.Cond.methodLink "KeptVolunteers" (199 : Nat) ({ cls := "KeptVolunteers$Troupe", name := "leave", desc := "(I)V" } : Jvm.MethodName)) ∈ kv_W := kv_t3 (i := 199) (by decide +kernel) (by decide +kernel)
theorem kw3_200 : (Jvm.Cond.instanceMethod ({ cls := "KeptVolunteers$Troupe", name := "leave", desc := "(I)V" } : Jvm.MethodName)) ∈ kv_W := kv_t3 (i := 200) (by decide +kernel) (by decide +kernel)
theorem kw3_201 : (Jvm.Cond.selects "KeptVolunteers$Troupe" ({ cls := "KeptVolunteers$Troupe", name := "leave", desc := "(I)V" } : Jvm.MethodName) ({ cls := "KeptVolunteers$Troupe", name := "leave", desc := "(I)V" } : Jvm.MethodName)) ∈ kv_W := kv_t3 (i := 201) (by decide +kernel) (by decide +kernel)
theorem kw3_202 : (Jvm.Cond.code ({ cls := "KeptVolunteers$Troupe", name := "leave", desc := "(I)V" } : Jvm.MethodName) prog_11_method_7_code (3 : Nat) (Option.none : Option Jvm.ClassFile.FieldType)) ∈ kv_W := kv_t3 (i := 202) (by decide +kernel) (by decide +kernel)
theorem kw3_203 : (Jvm.Cond.methodLink "KeptVolunteersLaw" (73 : Nat) ({ cls := "KeptVolunteers", name := "call", desc := "(II)I" } : Jvm.MethodName)) ∈ kv_W := kv_t3 (i := 203) (by decide +kernel) (by decide +kernel)
theorem kw3_204 : (Jvm.Cond.instanceMethod ({ cls := "KeptVolunteers", name := "call", desc := "(II)I" } : Jvm.MethodName)) ∈ kv_W := kv_t3 (i := 204) (by decide +kernel) (by decide +kernel)
theorem kw3_205 : (Jvm.Cond.selects "KeptVolunteers" ({ cls := "KeptVolunteers", name := "call", desc := "(II)I" } : Jvm.MethodName) ({ cls := "KeptVolunteers", name := "call", desc := "(II)I" } : Jvm.MethodName)) ∈ kv_W := kv_t3 (i := 205) (by decide +kernel) (by decide +kernel)
theorem kw3_206 : (Jvm.Cond.code ({ cls := "KeptVolunteers", name := "call", desc := "(II)I" } : Jvm.MethodName) prog_1_method_16_code (3 : Nat) (Option.some Jvm.ClassFile.FieldType.int)) ∈ kv_W := kv_t3 (i := 206) (by decide +kernel) (by decide +kernel)
theorem kw3_207 : (Jvm.Cond.methodLink "KeptVolunteers" (202 : Nat) ({ cls := "KeptVolunteers$Troupe", name := "join", desc := "(II)V" } : Jvm.MethodName)) ∈ kv_W := kv_t3 (i := 207) (by decide +kernel) (by decide +kernel)
theorem kw3_208 : (Jvm.Cond.instanceMethod ({ cls := "KeptVolunteers$Troupe", name := "join", desc := "(II)V" } : Jvm.MethodName)) ∈ kv_W := kv_t3 (i := 208) (by decide +kernel) (by decide +kernel)
theorem kw3_209 : (Jvm.Cond.selects "KeptVolunteers$Troupe" ({ cls := "KeptVolunteers$Troupe", name := "join", desc := "(II)V" } : Jvm.MethodName) ({ cls := "KeptVolunteers$Troupe", name := "join", desc := "(II)V" } : Jvm.MethodName)) ∈ kv_W := kv_t3 (i := 209) (by decide +kernel) (by decide +kernel)
theorem kw3_210 : (Jvm.Cond.code ({ cls := "KeptVolunteers$Troupe", name := "join", desc := "(II)V" } : Jvm.MethodName) prog_11_method_8_code (3 : Nat) (Option.none : Option Jvm.ClassFile.FieldType)) ∈ kv_W := kv_t3 (i := 210) (by decide +kernel) (by decide +kernel)
theorem kw3_211 : (Jvm.Cond.methodLink "KeptVolunteersLaw" (77 : Nat) ({ cls := "KeptVolunteers", name := "most", desc := "(I)I" } : Jvm.MethodName)) ∈ kv_W := kv_t3 (i := 211) (by decide +kernel) (by decide +kernel)
theorem kw3_212 : (Jvm.Cond.instanceMethod ({ cls := "KeptVolunteers", name := "most", desc := "(I)I" } : Jvm.MethodName)) ∈ kv_W := kv_t3 (i := 212) (by decide +kernel) (by decide +kernel)
theorem kw3_213 : (Jvm.Cond.selects "KeptVolunteers" ({ cls := "KeptVolunteers", name := "most", desc := "(I)I" } : Jvm.MethodName) ({ cls := "KeptVolunteers", name := "most", desc := "(I)I" } : Jvm.MethodName)) ∈ kv_W := kv_t3 (i := 213) (by decide +kernel) (by decide +kernel)
theorem kw3_214 : (Jvm.Cond.code ({ cls := "KeptVolunteers", name := "most", desc := "(I)I" } : Jvm.MethodName) prog_1_method_17_code (3 : Nat) (Option.some Jvm.ClassFile.FieldType.int)) ∈ kv_W := kv_t3 (i := 214) (by decide +kernel) (by decide +kernel)
theorem kw3_215 : (Jvm.Cond.methodLink "KeptVolunteersLaw" (81 : Nat) ({ cls := "KeptVolunteers", name := "fewest", desc := "(I)I" } : Jvm.MethodName)) ∈ kv_W := kv_t3 (i := 215) (by decide +kernel) (by decide +kernel)
theorem kw3_216 : (Jvm.Cond.instanceMethod ({ cls := "KeptVolunteers", name := "fewest", desc := "(I)I" } : Jvm.MethodName)) ∈ kv_W := kv_t3 (i := 216) (by decide +kernel) (by decide +kernel)
theorem kw3_217 : (Jvm.Cond.selects "KeptVolunteers" ({ cls := "KeptVolunteers", name := "fewest", desc := "(I)I" } : Jvm.MethodName) ({ cls := "KeptVolunteers", name := "fewest", desc := "(I)I" } : Jvm.MethodName)) ∈ kv_W := kv_t3 (i := 217) (by decide +kernel) (by decide +kernel)
theorem kw3_218 : (Jvm.Cond.code ({ cls := "KeptVolunteers", name := "fewest", desc := "(I)I" } : Jvm.MethodName) prog_1_method_18_code (3 : Nat) (Option.some Jvm.ClassFile.FieldType.int)) ∈ kv_W := kv_t3 (i := 218) (by decide +kernel) (by decide +kernel)
theorem kw3_219 : (Jvm.Cond.methodLink "KeptVolunteers" (213 : Nat) ({ cls := "KeptVolunteers$Planner", name := "fewestOf", desc := "(I)I" } : Jvm.MethodName)) ∈ kv_W := kv_t3 (i := 219) (by decide +kernel) (by decide +kernel)
theorem kw3_220 : (Jvm.Cond.instanceMethod ({ cls := "KeptVolunteers$Planner", name := "fewestOf", desc := "(I)I" } : Jvm.MethodName)) ∈ kv_W := kv_t3 (i := 220) (by decide +kernel) (by decide +kernel)
theorem kw3_221 : (Jvm.Cond.selects "KeptVolunteers$Planner" ({ cls := "KeptVolunteers$Planner", name := "fewestOf", desc := "(I)I" } : Jvm.MethodName) ({ cls := "KeptVolunteers$Planner", name := "fewestOf", desc := "(I)I" } : Jvm.MethodName)) ∈ kv_W := kv_t3 (i := 221) (by decide +kernel) (by decide +kernel)
theorem kw3_222 : (Jvm.Cond.code ({ cls := "KeptVolunteers$Planner", name := "fewestOf", desc := "(I)I" } : Jvm.MethodName) prog_6_method_8_code (5 : Nat) (Option.some Jvm.ClassFile.FieldType.int)) ∈ kv_W := kv_t3 (i := 222) (by decide +kernel) (by decide +kernel)
theorem kw3_223 : (Jvm.Cond.methodLink "KeptVolunteers$Planner" (86 : Nat) ({ cls := "KeptVolunteers$Planner", name := "search", desc := "(II)I" } : Jvm.MethodName)) ∈ kv_W := kv_t3 (i := 223) (by decide +kernel) (by decide +kernel)
theorem kw3_224 : (Jvm.Cond.methodLink "KeptVolunteers$Planner" (89 : Nat) ({ cls := "java/lang/Integer", name := "bitCount", desc := "(I)I" } : Jvm.MethodName)) ∈ kv_W := kv_t3 (i := 224) (by decide +kernel) (by decide +kernel)
theorem kw3_225 : (Jvm.Cond.methodLink "KeptVolunteersLaw" (85 : Nat) ({ cls := "KeptVolunteers", name := "spare", desc := "()I" } : Jvm.MethodName)) ∈ kv_W := kv_t3 (i := 225) (by decide +kernel) (by decide +kernel)
theorem kw3_226 : (Jvm.Cond.instanceMethod ({ cls := "KeptVolunteers", name := "spare", desc := "()I" } : Jvm.MethodName)) ∈ kv_W := kv_t3 (i := 226) (by decide +kernel) (by decide +kernel)
theorem kw3_227 : (Jvm.Cond.selects "KeptVolunteers" ({ cls := "KeptVolunteers", name := "spare", desc := "()I" } : Jvm.MethodName) ({ cls := "KeptVolunteers", name := "spare", desc := "()I" } : Jvm.MethodName)) ∈ kv_W := kv_t3 (i := 227) (by decide +kernel) (by decide +kernel)
theorem kw3_228 : (Jvm.Cond.code ({ cls := "KeptVolunteers", name := "spare", desc := "()I" } : Jvm.MethodName) prog_1_method_19_code (1 : Nat) (Option.some Jvm.ClassFile.FieldType.int)) ∈ kv_W := kv_t3 (i := 228) (by decide +kernel) (by decide +kernel)
theorem kw3_229 : (Jvm.Cond.methodLink "KeptVolunteers" (219 : Nat) ({ cls := "KeptVolunteers$Planner", name := "sparedOf", desc := "(I)I" } : Jvm.MethodName)) ∈ kv_W := kv_t3 (i := 229) (by decide +kernel) (by decide +kernel)
theorem kw3_230 : (Jvm.Cond.instanceMethod ({ cls := "KeptVolunteers$Planner", name := "sparedOf", desc := "(I)I" } : Jvm.MethodName)) ∈ kv_W := kv_t3 (i := 230) (by decide +kernel) (by decide +kernel)
theorem kw3_231 : (Jvm.Cond.selects "KeptVolunteers$Planner" ({ cls := "KeptVolunteers$Planner", name := "sparedOf", desc := "(I)I" } : Jvm.MethodName) ({ cls := "KeptVolunteers$Planner", name := "sparedOf", desc := "(I)I" } : Jvm.MethodName)) ∈ kv_W := kv_t3 (i := 231) (by decide +kernel) (by decide +kernel)
theorem kw3_232 : (Jvm.Cond.code ({ cls := "KeptVolunteers$Planner", name := "sparedOf", desc := "(I)I" } : Jvm.MethodName) prog_6_method_9_code (5 : Nat) (Option.some Jvm.ClassFile.FieldType.int)) ∈ kv_W := kv_t3 (i := 232) (by decide +kernel) (by decide +kernel)
theorem kw3_233 : (Jvm.Cond.methodLink "KeptVolunteersLaw" (89 : Nat) ({ cls := "KeptVolunteers", name := "wants", desc := "(I)I" } : Jvm.MethodName)) ∈ kv_W := kv_t3 (i := 233) (by decide +kernel) (by decide +kernel)
theorem kw3_234 : (Jvm.Cond.instanceMethod ({ cls := "KeptVolunteers", name := "wants", desc := "(I)I" } : Jvm.MethodName)) ∈ kv_W := kv_t3 (i := 234) (by decide +kernel) (by decide +kernel)
theorem kw3_235 : (Jvm.Cond.selects "KeptVolunteers" ({ cls := "KeptVolunteers", name := "wants", desc := "(I)I" } : Jvm.MethodName) ({ cls := "KeptVolunteers", name := "wants", desc := "(I)I" } : Jvm.MethodName)) ∈ kv_W := kv_t3 (i := 235) (by decide +kernel) (by decide +kernel)
theorem kw3_236 : (Jvm.Cond.code ({ cls := "KeptVolunteers", name := "wants", desc := "(I)I" } : Jvm.MethodName) prog_1_method_20_code (2 : Nat) (Option.some Jvm.ClassFile.FieldType.int)) ∈ kv_W := kv_t3 (i := 236) (by decide +kernel) (by decide +kernel)
theorem kw3_237 : (Jvm.Cond.methodLink "KeptVolunteers" (222 : Nat) ({ cls := "KeptVolunteers$Bill", name := "wantedIn", desc := "(I)I" } : Jvm.MethodName)) ∈ kv_W := kv_t3 (i := 237) (by decide +kernel) (by decide +kernel)
theorem kw3_238 : (Jvm.Cond.instanceMethod ({ cls := "KeptVolunteers$Bill", name := "wantedIn", desc := "(I)I" } : Jvm.MethodName)) ∈ kv_W := kv_t3 (i := 238) (by decide +kernel) (by decide +kernel)
theorem kw3_239 : (Jvm.Cond.selects "KeptVolunteers$Bill" ({ cls := "KeptVolunteers$Bill", name := "wantedIn", desc := "(I)I" } : Jvm.MethodName) ({ cls := "KeptVolunteers$Bill", name := "wantedIn", desc := "(I)I" } : Jvm.MethodName)) ∈ kv_W := kv_t3 (i := 239) (by decide +kernel) (by decide +kernel)
theorem kw4_0 : (Jvm.Cond.code ({ cls := "KeptVolunteers$Bill", name := "wantedIn", desc := "(I)I" } : Jvm.MethodName) prog_2_method_5_code (4 : Nat) (Option.some Jvm.ClassFile.FieldType.int)) ∈ kv_W := kv_t4 (i := 0) (by decide +kernel) (by decide +kernel)
theorem kw4_1 : (Jvm.Cond.methodLink "KeptVolunteers$Bill" (45 : Nat) ({ cls := "KeptVolunteers$Trick", name := "runningHours", desc := "()I" } : Jvm.MethodName)) ∈ kv_W := kv_t4 (i := 1) (by decide +kernel) (by decide +kernel)
theorem kw4_2 : (Jvm.Cond.instanceMethod ({ cls := "KeptVolunteers$Trick", name := "runningHours", desc := "()I" } : Jvm.MethodName)) ∈ kv_W := kv_t4 (i := 2) (by decide +kernel) (by decide +kernel)
theorem kw4_3 : (Jvm.Cond.selects "KeptVolunteers$Trick" ({ cls := "KeptVolunteers$Trick", name := "runningHours", desc := "()I" } : Jvm.MethodName) ({ cls := "KeptVolunteers$Trick", name := "runningHours", desc := "()I" } : Jvm.MethodName)) ∈ kv_W := kv_t4 (i := 3) (by decide +kernel) (by decide +kernel)
theorem kw4_4 : (Jvm.Cond.sameMethod "KeptVolunteers$Trick" "KeptVolunteers$Trick" "runningHours" "()I") ∈ kv_W := kv_t4 (i := 4) (by decide +kernel) (by decide +kernel)
theorem kw4_5 : (Jvm.Cond.selects "KeptVolunteers$LongTrick" ({ cls := "KeptVolunteers$Trick", name := "runningHours", desc := "()I" } : Jvm.MethodName) ({ cls := "KeptVolunteers$Trick", name := "runningHours", desc := "()I" } : Jvm.MethodName)) ∈ kv_W := kv_t4 (i := 5) (by decide +kernel) (by decide +kernel)
theorem kw4_6 : (Jvm.Cond.selects "KeptVolunteers$Pair" ({ cls := "KeptVolunteers$Trick", name := "runningHours", desc := "()I" } : Jvm.MethodName) ({ cls := "KeptVolunteers$Trick", name := "runningHours", desc := "()I" } : Jvm.MethodName)) ∈ kv_W := kv_t4 (i := 6) (by decide +kernel) (by decide +kernel)
theorem kw4_7 : (Jvm.Cond.selects "KeptVolunteers$Rope" ({ cls := "KeptVolunteers$Trick", name := "runningHours", desc := "()I" } : Jvm.MethodName) ({ cls := "KeptVolunteers$Trick", name := "runningHours", desc := "()I" } : Jvm.MethodName)) ∈ kv_W := kv_t4 (i := 7) (by decide +kernel) (by decide +kernel)
theorem kw4_8 : (Jvm.Cond.selects "KeptVolunteers$Saw" ({ cls := "KeptVolunteers$Trick", name := "runningHours", desc := "()I" } : Jvm.MethodName) ({ cls := "KeptVolunteers$Trick", name := "runningHours", desc := "()I" } : Jvm.MethodName)) ∈ kv_W := kv_t4 (i := 8) (by decide +kernel) (by decide +kernel)
theorem kw4_9 : (Jvm.Cond.code ({ cls := "KeptVolunteers$Trick", name := "runningHours", desc := "()I" } : Jvm.MethodName) prog_10_method_7_code (1 : Nat) (Option.some Jvm.ClassFile.FieldType.int)) ∈ kv_W := kv_t4 (i := 9) (by decide +kernel) (by decide +kernel)
theorem kw4_10 : (Jvm.Cond.methodLink "KeptVolunteersLaw" (93 : Nat) ({ cls := "KeptVolunteers", name := "route", desc := "(II)I" } : Jvm.MethodName)) ∈ kv_W := kv_t4 (i := 10) (by decide +kernel) (by decide +kernel)
theorem kw4_11 : (Jvm.Cond.instanceMethod ({ cls := "KeptVolunteers", name := "route", desc := "(II)I" } : Jvm.MethodName)) ∈ kv_W := kv_t4 (i := 11) (by decide +kernel) (by decide +kernel)
theorem kw4_12 : (Jvm.Cond.selects "KeptVolunteers" ({ cls := "KeptVolunteers", name := "route", desc := "(II)I" } : Jvm.MethodName) ({ cls := "KeptVolunteers", name := "route", desc := "(II)I" } : Jvm.MethodName)) ∈ kv_W := kv_t4 (i := 12) (by decide +kernel) (by decide +kernel)
theorem kw4_13 : (Jvm.Cond.code ({ cls := "KeptVolunteers", name := "route", desc := "(II)I" } : Jvm.MethodName) prog_1_method_21_code (4 : Nat) (Option.some Jvm.ClassFile.FieldType.int)) ∈ kv_W := kv_t4 (i := 13) (by decide +kernel) (by decide +kernel)
theorem kw4_14 : (Jvm.Cond.methodLink "KeptVolunteers" (225 : Nat) ({ cls := "KeptVolunteers$Troupe", name := "movesAhead", desc := "(I)I" } : Jvm.MethodName)) ∈ kv_W := kv_t4 (i := 14) (by decide +kernel) (by decide +kernel)
theorem kw4_15 : (Jvm.Cond.instanceMethod ({ cls := "KeptVolunteers$Troupe", name := "movesAhead", desc := "(I)I" } : Jvm.MethodName)) ∈ kv_W := kv_t4 (i := 15) (by decide +kernel) (by decide +kernel)
theorem kw4_16 : (Jvm.Cond.selects "KeptVolunteers$Troupe" ({ cls := "KeptVolunteers$Troupe", name := "movesAhead", desc := "(I)I" } : Jvm.MethodName) ({ cls := "KeptVolunteers$Troupe", name := "movesAhead", desc := "(I)I" } : Jvm.MethodName)) ∈ kv_W := kv_t4 (i := 16) (by decide +kernel) (by decide +kernel)
theorem kw4_17 : (Jvm.Cond.code ({ cls := "KeptVolunteers$Troupe", name := "movesAhead", desc := "(I)I" } : Jvm.MethodName) prog_11_method_9_code (4 : Nat) (Option.some Jvm.ClassFile.FieldType.int)) ∈ kv_W := kv_t4 (i := 17) (by decide +kernel) (by decide +kernel)
theorem kw4_18 : (Jvm.Cond.methodLink "KeptVolunteers$Troupe" (77 : Nat) ({ cls := "java/lang/Math", name := "floorMod", desc := "(II)I" } : Jvm.MethodName)) ∈ kv_W := kv_t4 (i := 18) (by decide +kernel) (by decide +kernel)
theorem kw4_19 : (Jvm.Cond.methodLink "KeptVolunteers" (228 : Nat) ({ cls := "KeptVolunteers", name := "fewestMoves", desc := "(I)I" } : Jvm.MethodName)) ∈ kv_W := kv_t4 (i := 19) (by decide +kernel) (by decide +kernel)
theorem kw4_20 : (Jvm.Cond.static ({ cls := "KeptVolunteers", name := "fewestMoves", desc := "(I)I" } : Jvm.MethodName)) ∈ kv_W := kv_t4 (i := 20) (by decide +kernel) (by decide +kernel)
theorem kw4_21 : (Jvm.Cond.code ({ cls := "KeptVolunteers", name := "fewestMoves", desc := "(I)I" } : Jvm.MethodName) prog_1_method_39_code (1 : Nat) (Option.some Jvm.ClassFile.FieldType.int)) ∈ kv_W := kv_t4 (i := 21) (by decide +kernel) (by decide +kernel)
theorem kw4_22 : (Jvm.Cond.methodLink "KeptVolunteers" (311 : Nat) ({ cls := "KeptVolunteers", name := "movesOnFirst", desc := "(I)I" } : Jvm.MethodName)) ∈ kv_W := kv_t4 (i := 22) (by decide +kernel) (by decide +kernel)
theorem kw4_23 : (Jvm.Cond.static ({ cls := "KeptVolunteers", name := "movesOnFirst", desc := "(I)I" } : Jvm.MethodName)) ∈ kv_W := kv_t4 (i := 23) (by decide +kernel) (by decide +kernel)
theorem kw4_24 : (Jvm.Cond.code ({ cls := "KeptVolunteers", name := "movesOnFirst", desc := "(I)I" } : Jvm.MethodName) prog_1_method_41_code (4 : Nat) (Option.some Jvm.ClassFile.FieldType.int)) ∈ kv_W := kv_t4 (i := 24) (by decide +kernel) (by decide +kernel)
theorem kw4_25 : (Jvm.Cond.methodLink "KeptVolunteers" (320 : Nat) ({ cls := "KeptVolunteers", name := "movesBackFor", desc := "(II)I" } : Jvm.MethodName)) ∈ kv_W := kv_t4 (i := 25) (by decide +kernel) (by decide +kernel)
theorem kw4_26 : (Jvm.Cond.static ({ cls := "KeptVolunteers", name := "movesBackFor", desc := "(II)I" } : Jvm.MethodName)) ∈ kv_W := kv_t4 (i := 26) (by decide +kernel) (by decide +kernel)
theorem kw4_27 : (Jvm.Cond.code ({ cls := "KeptVolunteers", name := "movesBackFor", desc := "(II)I" } : Jvm.MethodName) prog_1_method_43_code (3 : Nat) (Option.some Jvm.ClassFile.FieldType.int)) ∈ kv_W := kv_t4 (i := 27) (by decide +kernel) (by decide +kernel)
theorem kw4_28 : (Jvm.Cond.methodLink "KeptVolunteers" (317 : Nat) ({ cls := "java/lang/Math", name := "min", desc := "(II)I" } : Jvm.MethodName)) ∈ kv_W := kv_t4 (i := 28) (by decide +kernel) (by decide +kernel)
theorem kw4_29 : (Jvm.Cond.methodLink "KeptVolunteers" (314 : Nat) ({ cls := "KeptVolunteers", name := "movesBackFirst", desc := "(I)I" } : Jvm.MethodName)) ∈ kv_W := kv_t4 (i := 29) (by decide +kernel) (by decide +kernel)
theorem kw4_30 : (Jvm.Cond.static ({ cls := "KeptVolunteers", name := "movesBackFirst", desc := "(I)I" } : Jvm.MethodName)) ∈ kv_W := kv_t4 (i := 30) (by decide +kernel) (by decide +kernel)
theorem kw4_31 : (Jvm.Cond.code ({ cls := "KeptVolunteers", name := "movesBackFirst", desc := "(I)I" } : Jvm.MethodName) prog_1_method_42_code (4 : Nat) (Option.some Jvm.ClassFile.FieldType.int)) ∈ kv_W := kv_t4 (i := 31) (by decide +kernel) (by decide +kernel)
theorem kw4_32 : (Jvm.Cond.methodLink "KeptVolunteers" (231 : Nat) ({ cls := "KeptVolunteers", name := "firstMove", desc := "(I)I" } : Jvm.MethodName)) ∈ kv_W := kv_t4 (i := 32) (by decide +kernel) (by decide +kernel)
theorem kw4_33 : (Jvm.Cond.static ({ cls := "KeptVolunteers", name := "firstMove", desc := "(I)I" } : Jvm.MethodName)) ∈ kv_W := kv_t4 (i := 33) (by decide +kernel) (by decide +kernel)
theorem kw4_34 : (Jvm.Cond.code ({ cls := "KeptVolunteers", name := "firstMove", desc := "(I)I" } : Jvm.MethodName) prog_1_method_40_code (1 : Nat) (Option.some Jvm.ClassFile.FieldType.int)) ∈ kv_W := kv_t4 (i := 34) (by decide +kernel) (by decide +kernel)
theorem kw4_35 : (Jvm.Cond.methodLink "KeptVolunteersLaw" (97 : Nat) ({ cls := "KeptVolunteers", name := "see", desc := "(IIZ)I" } : Jvm.MethodName)) ∈ kv_W := kv_t4 (i := 35) (by decide +kernel) (by decide +kernel)
theorem kw4_36 : (Jvm.Cond.instanceMethod ({ cls := "KeptVolunteers", name := "see", desc := "(IIZ)I" } : Jvm.MethodName)) ∈ kv_W := kv_t4 (i := 36) (by decide +kernel) (by decide +kernel)
theorem kw4_37 : (Jvm.Cond.selects "KeptVolunteers" ({ cls := "KeptVolunteers", name := "see", desc := "(IIZ)I" } : Jvm.MethodName) ({ cls := "KeptVolunteers", name := "see", desc := "(IIZ)I" } : Jvm.MethodName)) ∈ kv_W := kv_t4 (i := 37) (by decide +kernel) (by decide +kernel)
theorem kw4_38 : (Jvm.Cond.code ({ cls := "KeptVolunteers", name := "see", desc := "(IIZ)I" } : Jvm.MethodName) prog_1_method_22_code (5 : Nat) (Option.some Jvm.ClassFile.FieldType.int)) ∈ kv_W := kv_t4 (i := 38) (by decide +kernel) (by decide +kernel)
theorem kw4_39 : (Jvm.Cond.methodLink "KeptVolunteers" (234 : Nat) ({ cls := "KeptVolunteers$Trick", name := "suitedStrongs", desc := "()I" } : Jvm.MethodName)) ∈ kv_W := kv_t4 (i := 39) (by decide +kernel) (by decide +kernel)
theorem kw4_40 : (Jvm.Cond.methodLink "KeptVolunteers" (237 : Nat) ({ cls := "KeptVolunteers$Troupe", name := "addSeen", desc := "(II)Z" } : Jvm.MethodName)) ∈ kv_W := kv_t4 (i := 40) (by decide +kernel) (by decide +kernel)
theorem kw4_41 : (Jvm.Cond.instanceMethod ({ cls := "KeptVolunteers$Troupe", name := "addSeen", desc := "(II)Z" } : Jvm.MethodName)) ∈ kv_W := kv_t4 (i := 41) (by decide +kernel) (by decide +kernel)
theorem kw4_42 : (Jvm.Cond.selects "KeptVolunteers$Troupe" ({ cls := "KeptVolunteers$Troupe", name := "addSeen", desc := "(II)Z" } : Jvm.MethodName) ({ cls := "KeptVolunteers$Troupe", name := "addSeen", desc := "(II)Z" } : Jvm.MethodName)) ∈ kv_W := kv_t4 (i := 42) (by decide +kernel) (by decide +kernel)
theorem kw4_43 : (Jvm.Cond.code ({ cls := "KeptVolunteers$Troupe", name := "addSeen", desc := "(II)Z" } : Jvm.MethodName) prog_11_method_10_code (3 : Nat) (Option.some Jvm.ClassFile.FieldType.boolean)) ∈ kv_W := kv_t4 (i := 43) (by decide +kernel) (by decide +kernel)
theorem kw4_44 : (Jvm.Cond.methodLink "KeptVolunteersLaw" (102 : Nat) ({ cls := "KeptVolunteers", name := "forget", desc := "()I" } : Jvm.MethodName)) ∈ kv_W := kv_t4 (i := 44) (by decide +kernel) (by decide +kernel)
theorem kw4_45 : (Jvm.Cond.instanceMethod ({ cls := "KeptVolunteers", name := "forget", desc := "()I" } : Jvm.MethodName)) ∈ kv_W := kv_t4 (i := 45) (by decide +kernel) (by decide +kernel)
theorem kw4_46 : (Jvm.Cond.selects "KeptVolunteers" ({ cls := "KeptVolunteers", name := "forget", desc := "()I" } : Jvm.MethodName) ({ cls := "KeptVolunteers", name := "forget", desc := "()I" } : Jvm.MethodName)) ∈ kv_W := kv_t4 (i := 46) (by decide +kernel) (by decide +kernel)
theorem kw4_47 : (Jvm.Cond.code ({ cls := "KeptVolunteers", name := "forget", desc := "()I" } : Jvm.MethodName) prog_1_method_23_code (2 : Nat) (Option.some Jvm.ClassFile.FieldType.int)) ∈ kv_W := kv_t4 (i := 47) (by decide +kernel) (by decide +kernel)
theorem kw4_48 : (Jvm.Cond.methodLink "KeptVolunteersLaw" (106 : Nat) ({ cls := "KeptVolunteers", name := "tours", desc := "(III)I" } : Jvm.MethodName)) ∈ kv_W := kv_t4 (i := 48) (by decide +kernel) (by decide +kernel)
theorem kw4_49 : (Jvm.Cond.instanceMethod ({ cls := "KeptVolunteers", name := "tours", desc := "(III)I" } : Jvm.MethodName)) ∈ kv_W := kv_t4 (i := 49) (by decide +kernel) (by decide +kernel)
theorem kw4_50 : (Jvm.Cond.selects "KeptVolunteers" ({ cls := "KeptVolunteers", name := "tours", desc := "(III)I" } : Jvm.MethodName) ({ cls := "KeptVolunteers", name := "tours", desc := "(III)I" } : Jvm.MethodName)) ∈ kv_W := kv_t4 (i := 50) (by decide +kernel) (by decide +kernel)
theorem kw4_51 : (Jvm.Cond.code ({ cls := "KeptVolunteers", name := "tours", desc := "(III)I" } : Jvm.MethodName) prog_1_method_24_code (4 : Nat) (Option.some Jvm.ClassFile.FieldType.int)) ∈ kv_W := kv_t4 (i := 51) (by decide +kernel) (by decide +kernel)
theorem kw4_52 : (Jvm.Cond.methodLink "KeptVolunteers" (243 : Nat) ({ cls := "KeptVolunteers$Tour", name := "go", desc := "(LKeptVolunteers$Bill;II)V" } : Jvm.MethodName)) ∈ kv_W := kv_t4 (i := 52) (by decide +kernel) (by decide +kernel)
theorem kw4_53 : (Jvm.Cond.instanceMethod ({ cls := "KeptVolunteers$Tour", name := "go", desc := "(LKeptVolunteers$Bill;II)V" } : Jvm.MethodName)) ∈ kv_W := kv_t4 (i := 53) (by decide +kernel) (by decide +kernel)
theorem kw4_54 : (Jvm.Cond.selects "KeptVolunteers$Tour" ({ cls := "KeptVolunteers$Tour", name := "go", desc := "(LKeptVolunteers$Bill;II)V" } : Jvm.MethodName) ({ cls := "KeptVolunteers$Tour", name := "go", desc := "(LKeptVolunteers$Bill;II)V" } : Jvm.MethodName)) ∈ kv_W := kv_t4 (i := 54) (by decide +kernel) (by decide +kernel)
theorem kw4_55 : (Jvm.Cond.code ({ cls := "KeptVolunteers$Tour", name := "go", desc := "(LKeptVolunteers$Bill;II)V" } : Jvm.MethodName) prog_9_method_2_code (5 : Nat) (Option.none : Option Jvm.ClassFile.FieldType)) ∈ kv_W := kv_t4 (i := 55) (by decide +kernel) (by decide +kernel)
theorem kw4_56 : (Jvm.Cond.methodLink "KeptVolunteers$Tour" (31 : Nat) ({ cls := "KeptVolunteers$Tour", name := "drawStrong", desc := "()I" } : Jvm.MethodName)) ∈ kv_W := kv_t4 (i := 56) (by decide +kernel) (by decide +kernel)
theorem kw4_58 : (Jvm.Cond.instanceMethod ({ cls := "KeptVolunteers$Tour", name := "drawStrong", desc := "()I" } : Jvm.MethodName)) ∈ kv_W := kv_t4 (i := 58) (by decide +kernel) (by decide +kernel)
theorem kw4_59 : (Jvm.Cond.code ({ cls := "KeptVolunteers$Tour", name := "drawStrong", desc := "()I" } : Jvm.MethodName) prog_9_method_3_code (1 : Nat) (Option.some Jvm.ClassFile.FieldType.int)) ∈ kv_W := kv_t4 (i := 59) (by decide +kernel) (by decide +kernel)
theorem kw4_60 : (Jvm.Cond.constantLong "KeptVolunteers$Tour" (46 : Nat) (1103515245 : Int64)) ∈ kv_W := kv_t4 (i := 60) (by decide +kernel) (by decide +kernel)
theorem kw4_61 : (Jvm.Cond.constantLong "KeptVolunteers$Tour" (48 : Nat) (12345 : Int64)) ∈ kv_W := kv_t4 (i := 61) (by decide +kernel) (by decide +kernel)
theorem kw4_62 : (Jvm.Cond.constantLong "KeptVolunteers$Tour" (50 : Nat) (2147483647 : Int64)) ∈ kv_W := kv_t4 (i := 62) (by decide +kernel) (by decide +kernel)
theorem kw4_63 : (Jvm.Cond.constant "KeptVolunteers$Tour" (52 : Nat) (65536 : Int32)) ∈ kv_W := kv_t4 (i := 63) (by decide +kernel) (by decide +kernel)
theorem kw4_64 : (Jvm.Cond.methodLink "KeptVolunteers$Tour" (35 : Nat) ({ cls := "KeptVolunteers$Tour", name := "callUp", desc := "(I)V" } : Jvm.MethodName)) ∈ kv_W := kv_t4 (i := 64) (by decide +kernel) (by decide +kernel)
theorem kw4_66 : (Jvm.Cond.instanceMethod ({ cls := "KeptVolunteers$Tour", name := "callUp", desc := "(I)V" } : Jvm.MethodName)) ∈ kv_W := kv_t4 (i := 66) (by decide +kernel) (by decide +kernel)
theorem kw4_67 : (Jvm.Cond.code ({ cls := "KeptVolunteers$Tour", name := "callUp", desc := "(I)V" } : Jvm.MethodName) prog_9_method_4_code (2 : Nat) (Option.none : Option Jvm.ClassFile.FieldType)) ∈ kv_W := kv_t4 (i := 67) (by decide +kernel) (by decide +kernel)
theorem kw4_68 : (Jvm.Cond.methodLink "KeptVolunteers$Tour" (39 : Nat) ({ cls := "KeptVolunteers$Tour", name := "play", desc := "(LKeptVolunteers$Bill;)I" } : Jvm.MethodName)) ∈ kv_W := kv_t4 (i := 68) (by decide +kernel) (by decide +kernel)
theorem kw4_70 : (Jvm.Cond.instanceMethod ({ cls := "KeptVolunteers$Tour", name := "play", desc := "(LKeptVolunteers$Bill;)I" } : Jvm.MethodName)) ∈ kv_W := kv_t4 (i := 70) (by decide +kernel) (by decide +kernel)
theorem kw4_71 : (Jvm.Cond.code ({ cls := "KeptVolunteers$Tour", name := "play", desc := "(LKeptVolunteers$Bill;)I" } : Jvm.MethodName) prog_9_method_5_code (5 : Nat) (Option.some Jvm.ClassFile.FieldType.int)) ∈ kv_W := kv_t4 (i := 71) (by decide +kernel) (by decide +kernel)
theorem kw4_72 : (Jvm.Cond.methodLink "KeptVolunteers$Tour" (59 : Nat) ({ cls := "java/lang/Math", name := "min", desc := "(II)I" } : Jvm.MethodName)) ∈ kv_W := kv_t4 (i := 72) (by decide +kernel) (by decide +kernel)
theorem kw4_73 : (Jvm.Cond.methodLink "KeptVolunteers$Tour" (65 : Nat) ({ cls := "KeptVolunteers$Bill", name := "clashesOf", desc := "(I)I" } : Jvm.MethodName)) ∈ kv_W := kv_t4 (i := 73) (by decide +kernel) (by decide +kernel)
theorem kw4_74 : (Jvm.Cond.methodLink "KeptVolunteers$Tour" (69 : Nat) ({ cls := "KeptVolunteers$Tour", name := "busyFor", desc := "(II)I" } : Jvm.MethodName)) ∈ kv_W := kv_t4 (i := 74) (by decide +kernel) (by decide +kernel)
theorem kw4_76 : (Jvm.Cond.instanceMethod ({ cls := "KeptVolunteers$Tour", name := "busyFor", desc := "(II)I" } : Jvm.MethodName)) ∈ kv_W := kv_t4 (i := 76) (by decide +kernel) (by decide +kernel)
theorem kw4_77 : (Jvm.Cond.code ({ cls := "KeptVolunteers$Tour", name := "busyFor", desc := "(II)I" } : Jvm.MethodName) prog_9_method_6_code (5 : Nat) (Option.some Jvm.ClassFile.FieldType.int)) ∈ kv_W := kv_t4 (i := 77) (by decide +kernel) (by decide +kernel)
theorem kw4_79 : (Jvm.Cond.methodLink "KeptVolunteers$Tour" (72 : Nat) ({ cls := "KeptVolunteers$Tour", name := "take", desc := "(LKeptVolunteers$Trick;I)I" } : Jvm.MethodName)) ∈ kv_W := kv_t4 (i := 79) (by decide +kernel) (by decide +kernel)
theorem kw4_81 : (Jvm.Cond.instanceMethod ({ cls := "KeptVolunteers$Tour", name := "take", desc := "(LKeptVolunteers$Trick;I)I" } : Jvm.MethodName)) ∈ kv_W := kv_t4 (i := 81) (by decide +kernel) (by decide +kernel)
theorem kw4_82 : (Jvm.Cond.code ({ cls := "KeptVolunteers$Tour", name := "take", desc := "(LKeptVolunteers$Trick;I)I" } : Jvm.MethodName) prog_9_method_7_code (6 : Nat) (Option.some Jvm.ClassFile.FieldType.int)) ∈ kv_W := kv_t4 (i := 82) (by decide +kernel) (by decide +kernel)
theorem kw4_83 : (Jvm.Cond.methodLink "KeptVolunteers$Tour" (84 : Nat) ({ cls := "KeptVolunteers$Trick", name := "crew", desc := "()I" } : Jvm.MethodName)) ∈ kv_W := kv_t4 (i := 83) (by decide +kernel) (by decide +kernel)
theorem kw4_84 : (Jvm.Cond.methodLink "KeptVolunteers$Tour" (89 : Nat) ({ cls := "KeptVolunteers$Trick", name := "suits", desc := "(I)Z" } : Jvm.MethodName)) ∈ kv_W := kv_t4 (i := 84) (by decide +kernel) (by decide +kernel)
theorem kw4_85 : (Jvm.Cond.methodLink "KeptVolunteers$Tour" (76 : Nat) ({ cls := "KeptVolunteers$Bill", name := "isDoneBy", desc := "(II[I)Z" } : Jvm.MethodName)) ∈ kv_W := kv_t4 (i := 85) (by decide +kernel) (by decide +kernel)
theorem kw4_86 : (Jvm.Cond.methodLink "KeptVolunteers$Tour" (43 : Nat) ({ cls := "KeptVolunteers$Tour", name := "sendHome", desc := "(I)V" } : Jvm.MethodName)) ∈ kv_W := kv_t4 (i := 86) (by decide +kernel) (by decide +kernel)
theorem kw4_88 : (Jvm.Cond.instanceMethod ({ cls := "KeptVolunteers$Tour", name := "sendHome", desc := "(I)V" } : Jvm.MethodName)) ∈ kv_W := kv_t4 (i := 88) (by decide +kernel) (by decide +kernel)
theorem kw4_89 : (Jvm.Cond.code ({ cls := "KeptVolunteers$Tour", name := "sendHome", desc := "(I)V" } : Jvm.MethodName) prog_9_method_8_code (4 : Nat) (Option.none : Option Jvm.ClassFile.FieldType)) ∈ kv_W := kv_t4 (i := 89) (by decide +kernel) (by decide +kernel)
theorem kw4_90 : (Jvm.Cond.methodLink "KeptVolunteersLaw" (111 : Nat) ({ cls := "KeptVolunteers", name := "image", desc := "()I" } : Jvm.MethodName)) ∈ kv_W := kv_t4 (i := 90) (by decide +kernel) (by decide +kernel)
theorem kw4_91 : (Jvm.Cond.instanceMethod ({ cls := "KeptVolunteers", name := "image", desc := "()I" } : Jvm.MethodName)) ∈ kv_W := kv_t4 (i := 91) (by decide +kernel) (by decide +kernel)
theorem kw4_92 : (Jvm.Cond.selects "KeptVolunteers" ({ cls := "KeptVolunteers", name := "image", desc := "()I" } : Jvm.MethodName) ({ cls := "KeptVolunteers", name := "image", desc := "()I" } : Jvm.MethodName)) ∈ kv_W := kv_t4 (i := 92) (by decide +kernel) (by decide +kernel)
theorem kw4_93 : (Jvm.Cond.code ({ cls := "KeptVolunteers", name := "image", desc := "()I" } : Jvm.MethodName) prog_1_method_25_code (1 : Nat) (Option.some Jvm.ClassFile.FieldType.int)) ∈ kv_W := kv_t4 (i := 93) (by decide +kernel) (by decide +kernel)
theorem kw4_94 : (Jvm.Cond.methodLink "KeptVolunteers" (256 : Nat) ({ cls := "KeptVolunteers$Troupe", name := "copyFrom", desc := "(LKeptVolunteers$Troupe;)V" } : Jvm.MethodName)) ∈ kv_W := kv_t4 (i := 94) (by decide +kernel) (by decide +kernel)
theorem kw4_95 : (Jvm.Cond.instanceMethod ({ cls := "KeptVolunteers$Troupe", name := "copyFrom", desc := "(LKeptVolunteers$Troupe;)V" } : Jvm.MethodName)) ∈ kv_W := kv_t4 (i := 95) (by decide +kernel) (by decide +kernel)
theorem kw4_96 : (Jvm.Cond.selects "KeptVolunteers$Troupe" ({ cls := "KeptVolunteers$Troupe", name := "copyFrom", desc := "(LKeptVolunteers$Troupe;)V" } : Jvm.MethodName) ({ cls := "KeptVolunteers$Troupe", name := "copyFrom", desc := "(LKeptVolunteers$Troupe;)V" } : Jvm.MethodName)) ∈ kv_W := kv_t4 (i := 96) (by decide +kernel) (by decide +kernel)
theorem kw4_97 : (Jvm.Cond.code ({ cls := "KeptVolunteers$Troupe", name := "copyFrom", desc := "(LKeptVolunteers$Troupe;)V" } : Jvm.MethodName) prog_11_method_3_code (2 : Nat) (Option.none : Option Jvm.ClassFile.FieldType)) ∈ kv_W := kv_t4 (i := 97) (by decide +kernel) (by decide +kernel)
theorem kw4_98 : (Jvm.Cond.methodLink "KeptVolunteers$Troupe" (61 : Nat) ({ cls := "java/lang/System", name := "arraycopy", desc := "(Ljava/lang/Object;ILjava/lang/Object;II)V" } : Jvm.MethodName)) ∈ kv_W := kv_t4 (i := 98) (by decide +kernel) (by decide +kernel)
theorem kw4_99 : (Jvm.Cond.methodLink "KeptVolunteersLaw" (115 : Nat) ({ cls := "KeptVolunteers", name := "restore", desc := "()I" } : Jvm.MethodName)) ∈ kv_W := kv_t4 (i := 99) (by decide +kernel) (by decide +kernel)
theorem kw4_100 : (Jvm.Cond.instanceMethod ({ cls := "KeptVolunteers", name := "restore", desc := "()I" } : Jvm.MethodName)) ∈ kv_W := kv_t4 (i := 100) (by decide +kernel) (by decide +kernel)
theorem kw4_101 : (Jvm.Cond.selects "KeptVolunteers" ({ cls := "KeptVolunteers", name := "restore", desc := "()I" } : Jvm.MethodName) ({ cls := "KeptVolunteers", name := "restore", desc := "()I" } : Jvm.MethodName)) ∈ kv_W := kv_t4 (i := 101) (by decide +kernel) (by decide +kernel)
theorem kw4_102 : (Jvm.Cond.code ({ cls := "KeptVolunteers", name := "restore", desc := "()I" } : Jvm.MethodName) prog_1_method_26_code (1 : Nat) (Option.some Jvm.ClassFile.FieldType.int)) ∈ kv_W := kv_t4 (i := 102) (by decide +kernel) (by decide +kernel)
theorem kw4_103 : (Jvm.Cond.methodLink "KeptVolunteersLaw" (119 : Nat) ({ cls := "KeptVolunteers", name := "count", desc := "(I)I" } : Jvm.MethodName)) ∈ kv_W := kv_t4 (i := 103) (by decide +kernel) (by decide +kernel)
theorem kw4_104 : (Jvm.Cond.instanceMethod ({ cls := "KeptVolunteers", name := "count", desc := "(I)I" } : Jvm.MethodName)) ∈ kv_W := kv_t4 (i := 104) (by decide +kernel) (by decide +kernel)
theorem kw4_105 : (Jvm.Cond.selects "KeptVolunteers" ({ cls := "KeptVolunteers", name := "count", desc := "(I)I" } : Jvm.MethodName) ({ cls := "KeptVolunteers", name := "count", desc := "(I)I" } : Jvm.MethodName)) ∈ kv_W := kv_t4 (i := 105) (by decide +kernel) (by decide +kernel)
theorem kw4_106 : (Jvm.Cond.code ({ cls := "KeptVolunteers", name := "count", desc := "(I)I" } : Jvm.MethodName) prog_1_method_27_code (2 : Nat) (Option.some Jvm.ClassFile.FieldType.int)) ∈ kv_W := kv_t4 (i := 106) (by decide +kernel) (by decide +kernel)
theorem kw4_107 : (Jvm.Cond.methodLink "KeptVolunteers" (260 : Nat) ({ cls := "KeptVolunteers", name := "doneNow", desc := "()I" } : Jvm.MethodName)) ∈ kv_W := kv_t4 (i := 107) (by decide +kernel) (by decide +kernel)
theorem kw4_109 : (Jvm.Cond.instanceMethod ({ cls := "KeptVolunteers", name := "doneNow", desc := "()I" } : Jvm.MethodName)) ∈ kv_W := kv_t4 (i := 109) (by decide +kernel) (by decide +kernel)
theorem kw4_110 : (Jvm.Cond.code ({ cls := "KeptVolunteers", name := "doneNow", desc := "()I" } : Jvm.MethodName) prog_1_method_34_code (3 : Nat) (Option.some Jvm.ClassFile.FieldType.int)) ∈ kv_W := kv_t4 (i := 110) (by decide +kernel) (by decide +kernel)
theorem kw4_111 : (Jvm.Cond.methodLink "KeptVolunteers" (263 : Nat) ({ cls := "KeptVolunteers$Bill", name := "bound", desc := "()I" } : Jvm.MethodName)) ∈ kv_W := kv_t4 (i := 111) (by decide +kernel) (by decide +kernel)
theorem kw4_112 : (Jvm.Cond.instanceMethod ({ cls := "KeptVolunteers$Bill", name := "bound", desc := "()I" } : Jvm.MethodName)) ∈ kv_W := kv_t4 (i := 112) (by decide +kernel) (by decide +kernel)
theorem kw4_113 : (Jvm.Cond.selects "KeptVolunteers$Bill" ({ cls := "KeptVolunteers$Bill", name := "bound", desc := "()I" } : Jvm.MethodName) ({ cls := "KeptVolunteers$Bill", name := "bound", desc := "()I" } : Jvm.MethodName)) ∈ kv_W := kv_t4 (i := 113) (by decide +kernel) (by decide +kernel)
theorem kw4_114 : (Jvm.Cond.code ({ cls := "KeptVolunteers$Bill", name := "bound", desc := "()I" } : Jvm.MethodName) prog_2_method_6_code (3 : Nat) (Option.some Jvm.ClassFile.FieldType.int)) ∈ kv_W := kv_t4 (i := 114) (by decide +kernel) (by decide +kernel)
theorem kw4_115 : (Jvm.Cond.methodLink "KeptVolunteers$Bill" (48 : Nat) ({ cls := "KeptVolunteers$Bill", name := "wantedIn", desc := "(I)I" } : Jvm.MethodName)) ∈ kv_W := kv_t4 (i := 115) (by decide +kernel) (by decide +kernel)
theorem kw4_116 : (Jvm.Cond.methodLink "KeptVolunteersLaw" (123 : Nat) ({ cls := "KeptVolunteers", name := "digest", desc := "()J" } : Jvm.MethodName)) ∈ kv_W := kv_t4 (i := 116) (by decide +kernel) (by decide +kernel)
theorem kw4_117 : (Jvm.Cond.instanceMethod ({ cls := "KeptVolunteers", name := "digest", desc := "()J" } : Jvm.MethodName)) ∈ kv_W := kv_t4 (i := 117) (by decide +kernel) (by decide +kernel)
theorem kw4_118 : (Jvm.Cond.selects "KeptVolunteers" ({ cls := "KeptVolunteers", name := "digest", desc := "()J" } : Jvm.MethodName) ({ cls := "KeptVolunteers", name := "digest", desc := "()J" } : Jvm.MethodName)) ∈ kv_W := kv_t4 (i := 118) (by decide +kernel) (by decide +kernel)
theorem kw4_119 : (Jvm.Cond.code ({ cls := "KeptVolunteers", name := "digest", desc := "()J" } : Jvm.MethodName) prog_1_method_28_code (4 : Nat) (Option.some Jvm.ClassFile.FieldType.long)) ∈ kv_W := kv_t4 (i := 119) (by decide +kernel) (by decide +kernel)
theorem kw4_120 : (Jvm.Cond.constantLong "KeptVolunteers" (270 : Nat) (1117 : Int64)) ∈ kv_W := kv_t4 (i := 120) (by decide +kernel) (by decide +kernel)
theorem kw4_121 : (Jvm.Cond.methodLink "KeptVolunteers" (272 : Nat) ({ cls := "KeptVolunteers", name := "digestOfShow", desc := "(J)J" } : Jvm.MethodName)) ∈ kv_W := kv_t4 (i := 121) (by decide +kernel) (by decide +kernel)
theorem kw4_123 : (Jvm.Cond.instanceMethod ({ cls := "KeptVolunteers", name := "digestOfShow", desc := "(J)J" } : Jvm.MethodName)) ∈ kv_W := kv_t4 (i := 123) (by decide +kernel) (by decide +kernel)
theorem kw4_124 : (Jvm.Cond.code ({ cls := "KeptVolunteers", name := "digestOfShow", desc := "(J)J" } : Jvm.MethodName) prog_1_method_29_code (7 : Nat) (Option.some Jvm.ClassFile.FieldType.long)) ∈ kv_W := kv_t4 (i := 124) (by decide +kernel) (by decide +kernel)
theorem kw4_125 : (Jvm.Cond.constantLong "KeptVolunteers" (276 : Nat) (31 : Int64)) ∈ kv_W := kv_t4 (i := 125) (by decide +kernel) (by decide +kernel)
theorem kw4_126 : (Jvm.Cond.methodLink "KeptVolunteers" (284 : Nat) ({ cls := "KeptVolunteers", name := "trick", desc := "(II)I" } : Jvm.MethodName)) ∈ kv_W := kv_t4 (i := 126) (by decide +kernel) (by decide +kernel)
theorem kw4_127 : (Jvm.Cond.methodLink "KeptVolunteers" (287 : Nat) ({ cls := "KeptVolunteers", name := "person", desc := "(II)I" } : Jvm.MethodName)) ∈ kv_W := kv_t4 (i := 127) (by decide +kernel) (by decide +kernel)
theorem kw4_128 : (Jvm.Cond.methodLink "KeptVolunteers" (290 : Nat) ({ cls := "KeptVolunteers", name := "wants", desc := "(I)I" } : Jvm.MethodName)) ∈ kv_W := kv_t4 (i := 128) (by decide +kernel) (by decide +kernel)
theorem kw4_129 : (Jvm.Cond.methodLink "KeptVolunteers" (293 : Nat) ({ cls := "KeptVolunteers", name := "route", desc := "(II)I" } : Jvm.MethodName)) ∈ kv_W := kv_t4 (i := 129) (by decide +kernel) (by decide +kernel)
theorem kw4_130 : (Jvm.Cond.methodLink "KeptVolunteers" (281 : Nat) ({ cls := "KeptVolunteers", name := "count", desc := "(I)I" } : Jvm.MethodName)) ∈ kv_W := kv_t4 (i := 130) (by decide +kernel) (by decide +kernel)
theorem kw4_131 : (Jvm.Cond.classLink "KeptVolunteersLaw" (10 : Nat) "KeptVolunteersModel") ∈ kv_W := kv_t4 (i := 131) (by decide +kernel) (by decide +kernel)
theorem kw4_132 : (Jvm.Cond.instantiable "KeptVolunteersModel" (42 : Nat)) ∈ kv_W := kv_t4 (i := 132) (by decide +kernel) (by decide +kernel)
theorem kw4_133 : (Jvm.Cond.methodLink "KeptVolunteersLaw" (12 : Nat) ({ cls := "KeptVolunteersModel", name := "<init>", desc := "()V" } : Jvm.MethodName)) ∈ kv_W := kv_t4 (i := 133) (by decide +kernel) (by decide +kernel)
theorem kw4_134 : (Jvm.Cond.instanceMethod ({ cls := "KeptVolunteersModel", name := "<init>", desc := "()V" } : Jvm.MethodName)) ∈ kv_W := kv_t4 (i := 134) (by decide +kernel) (by decide +kernel)
theorem kw4_135 : (Jvm.Cond.code ({ cls := "KeptVolunteersModel", name := "<init>", desc := "()V" } : Jvm.MethodName) prog_13_method_1_code (1 : Nat) (Option.none : Option Jvm.ClassFile.FieldType)) ∈ kv_W := kv_t4 (i := 135) (by decide +kernel) (by decide +kernel)
theorem kw4_136 : (Jvm.Cond.methodLink "KeptVolunteersModel" (1 : Nat) ({ cls := "java/lang/Object", name := "<init>", desc := "()V" } : Jvm.MethodName)) ∈ kv_W := kv_t4 (i := 136) (by decide +kernel) (by decide +kernel)
theorem kw4_137 : (Jvm.Cond.fieldLink "KeptVolunteersModel" (7 : Nat) "KeptVolunteersModel" "page" "[I") ∈ kv_W := kv_t4 (i := 137) (by decide +kernel) (by decide +kernel)
theorem kw4_138 : (Jvm.Cond.fieldLink "KeptVolunteersModel" (68 : Nat) "KeptVolunteersModel" "pageMany" "I") ∈ kv_W := kv_t4 (i := 138) (by decide +kernel) (by decide +kernel)
theorem kw4_139 : (Jvm.Cond.fieldLink "KeptVolunteersModel" (85 : Nat) "KeptVolunteersModel" "endAt" "I") ∈ kv_W := kv_t4 (i := 139) (by decide +kernel) (by decide +kernel)
theorem kw4_140 : (Jvm.Cond.fieldLink "KeptVolunteersModel" (101 : Nat) "KeptVolunteersModel" "tricks" "I") ∈ kv_W := kv_t4 (i := 140) (by decide +kernel) (by decide +kernel)
theorem kw4_141 : (Jvm.Cond.fieldLink "KeptVolunteersModel" (104 : Nat) "KeptVolunteersModel" "people" "I") ∈ kv_W := kv_t4 (i := 141) (by decide +kernel) (by decide +kernel)
theorem kw4_142 : (Jvm.Cond.fieldLink "KeptVolunteersModel" (107 : Nat) "KeptVolunteersModel" "town" "I") ∈ kv_W := kv_t4 (i := 142) (by decide +kernel) (by decide +kernel)
theorem kw4_143 : (Jvm.Cond.fieldLink "KeptVolunteersModel" (110 : Nat) "KeptVolunteersModel" "nights" "I") ∈ kv_W := kv_t4 (i := 143) (by decide +kernel) (by decide +kernel)
theorem kw4_144 : (Jvm.Cond.fieldLink "KeptVolunteersModel" (113 : Nat) "KeptVolunteersModel" "doneAll" "I") ∈ kv_W := kv_t4 (i := 144) (by decide +kernel) (by decide +kernel)
theorem kw4_145 : (Jvm.Cond.fieldLink "KeptVolunteersModel" (116 : Nat) "KeptVolunteersModel" "moves" "I") ∈ kv_W := kv_t4 (i := 145) (by decide +kernel) (by decide +kernel)
theorem kw4_146 : (Jvm.Cond.fieldLink "KeptVolunteersModel" (119 : Nat) "KeptVolunteersModel" "called" "I") ∈ kv_W := kv_t4 (i := 146) (by decide +kernel) (by decide +kernel)
theorem kw4_147 : (Jvm.Cond.fieldLink "KeptVolunteersModel" (122 : Nat) "KeptVolunteersModel" "gone" "I") ∈ kv_W := kv_t4 (i := 147) (by decide +kernel) (by decide +kernel)
theorem kw4_148 : (Jvm.Cond.fieldLink "KeptVolunteersModel" (128 : Nat) "KeptVolunteersModel" "showsRead" "I") ∈ kv_W := kv_t4 (i := 148) (by decide +kernel) (by decide +kernel)
theorem kw4_149 : (Jvm.Cond.fieldLink "KeptVolunteersModel" (13 : Nat) "KeptVolunteersModel" "rows" "[I") ∈ kv_W := kv_t4 (i := 149) (by decide +kernel) (by decide +kernel)
theorem kw4_150 : (Jvm.Cond.fieldLink "KeptVolunteersModel" (16 : Nat) "KeptVolunteersModel" "folk" "[I") ∈ kv_W := kv_t4 (i := 150) (by decide +kernel) (by decide +kernel)
theorem kw4_151 : (Jvm.Cond.fieldLink "KeptVolunteersModel" (19 : Nat) "KeptVolunteersModel" "casts" "[I") ∈ kv_W := kv_t4 (i := 151) (by decide +kernel) (by decide +kernel)
theorem kw4_152 : (Jvm.Cond.fieldLink "KeptVolunteersModel" (222 : Nat) "KeptVolunteersModel" "mostsDone" "I") ∈ kv_W := kv_t4 (i := 152) (by decide +kernel) (by decide +kernel)
theorem kw4_153 : (Jvm.Cond.fieldLink "KeptVolunteersModel" (22 : Nat) "KeptVolunteersModel" "choices" "[I") ∈ kv_W := kv_t4 (i := 153) (by decide +kernel) (by decide +kernel)
theorem kw4_154 : (Jvm.Cond.fieldLink "KeptVolunteersModel" (25 : Nat) "KeptVolunteersModel" "choicesMany" "[I") ∈ kv_W := kv_t4 (i := 154) (by decide +kernel) (by decide +kernel)
theorem kw4_155 : (Jvm.Cond.fieldLink "KeptVolunteersModel" (28 : Nat) "KeptVolunteersModel" "row" "[I") ∈ kv_W := kv_t4 (i := 155) (by decide +kernel) (by decide +kernel)
theorem kw4_156 : (Jvm.Cond.fieldLink "KeptVolunteersModel" (31 : Nat) "KeptVolunteersModel" "bestRow" "[I") ∈ kv_W := kv_t4 (i := 156) (by decide +kernel) (by decide +kernel)
theorem kw4_157 : (Jvm.Cond.fieldLink "KeptVolunteersModel" (34 : Nat) "KeptVolunteersModel" "places" "[I") ∈ kv_W := kv_t4 (i := 157) (by decide +kernel) (by decide +kernel)
theorem kw4_158 : (Jvm.Cond.fieldLink "KeptVolunteersModel" (228 : Nat) "KeptVolunteersModel" "fewestsDone" "I") ∈ kv_W := kv_t4 (i := 158) (by decide +kernel) (by decide +kernel)
theorem kw4_159 : (Jvm.Cond.fieldLink "KeptVolunteersModel" (234 : Nat) "KeptVolunteersModel" "sparesDone" "I") ∈ kv_W := kv_t4 (i := 159) (by decide +kernel) (by decide +kernel)
theorem kw4_160 : (Jvm.Cond.fieldLink "KeptVolunteersModel" (125 : Nat) "KeptVolunteersModel" "seenMany" "I") ∈ kv_W := kv_t4 (i := 160) (by decide +kernel) (by decide +kernel)
theorem kw4_161 : (Jvm.Cond.fieldLink "KeptVolunteersModel" (37 : Nat) "KeptVolunteersModel" "sights" "[I") ∈ kv_W := kv_t4 (i := 161) (by decide +kernel) (by decide +kernel)
theorem kw4_162 : (Jvm.Cond.fieldLink "KeptVolunteersModel" (254 : Nat) "KeptVolunteersModel" "seedNow" "I") ∈ kv_W := kv_t4 (i := 162) (by decide +kernel) (by decide +kernel)
theorem kw4_163 : (Jvm.Cond.fieldLink "KeptVolunteersModel" (40 : Nat) "KeptVolunteersModel" "line" "[I") ∈ kv_W := kv_t4 (i := 163) (by decide +kernel) (by decide +kernel)
theorem kw4_164 : (Jvm.Cond.fieldLink "KeptVolunteersModel" (43 : Nat) "KeptVolunteersModel" "lineIn" "[I") ∈ kv_W := kv_t4 (i := 164) (by decide +kernel) (by decide +kernel)
theorem kw4_165 : (Jvm.Cond.fieldLink "KeptVolunteersModel" (46 : Nat) "KeptVolunteersModel" "lineDone" "[I") ∈ kv_W := kv_t4 (i := 165) (by decide +kernel) (by decide +kernel)
theorem kw4_166 : (Jvm.Cond.fieldLink "KeptVolunteersModel" (262 : Nat) "KeptVolunteersModel" "lineMany" "I") ∈ kv_W := kv_t4 (i := 166) (by decide +kernel) (by decide +kernel)
theorem kw4_167 : (Jvm.Cond.fieldLink "KeptVolunteersModel" (58 : Nat) "KeptVolunteersModel" "keptShow" "I") ∈ kv_W := kv_t4 (i := 167) (by decide +kernel) (by decide +kernel)
theorem kw4_168 : (Jvm.Cond.fieldLink "KeptVolunteersModel" (278 : Nat) "KeptVolunteersModel" "keptTown" "I") ∈ kv_W := kv_t4 (i := 168) (by decide +kernel) (by decide +kernel)
theorem kw4_169 : (Jvm.Cond.fieldLink "KeptVolunteersModel" (281 : Nat) "KeptVolunteersModel" "keptNights" "I") ∈ kv_W := kv_t4 (i := 169) (by decide +kernel) (by decide +kernel)
theorem kw4_170 : (Jvm.Cond.fieldLink "KeptVolunteersModel" (284 : Nat) "KeptVolunteersModel" "keptDone" "I") ∈ kv_W := kv_t4 (i := 170) (by decide +kernel) (by decide +kernel)
theorem kw4_171 : (Jvm.Cond.fieldLink "KeptVolunteersModel" (287 : Nat) "KeptVolunteersModel" "keptMoves" "I") ∈ kv_W := kv_t4 (i := 171) (by decide +kernel) (by decide +kernel)
theorem kw4_172 : (Jvm.Cond.fieldLink "KeptVolunteersModel" (290 : Nat) "KeptVolunteersModel" "keptCalled" "I") ∈ kv_W := kv_t4 (i := 172) (by decide +kernel) (by decide +kernel)
theorem kw4_173 : (Jvm.Cond.fieldLink "KeptVolunteersModel" (293 : Nat) "KeptVolunteersModel" "keptGone" "I") ∈ kv_W := kv_t4 (i := 173) (by decide +kernel) (by decide +kernel)
theorem kw4_174 : (Jvm.Cond.fieldLink "KeptVolunteersModel" (296 : Nat) "KeptVolunteersModel" "keptSeen" "I") ∈ kv_W := kv_t4 (i := 174) (by decide +kernel) (by decide +kernel)
theorem kw4_175 : (Jvm.Cond.fieldLink "KeptVolunteersModel" (49 : Nat) "KeptVolunteersModel" "keptFolk" "[I") ∈ kv_W := kv_t4 (i := 175) (by decide +kernel) (by decide +kernel)
theorem kw4_176 : (Jvm.Cond.fieldLink "KeptVolunteersModel" (52 : Nat) "KeptVolunteersModel" "keptCasts" "[I") ∈ kv_W := kv_t4 (i := 176) (by decide +kernel) (by decide +kernel)
theorem kw4_177 : (Jvm.Cond.fieldLink "KeptVolunteersModel" (55 : Nat) "KeptVolunteersModel" "keptSights" "[I") ∈ kv_W := kv_t4 (i := 177) (by decide +kernel) (by decide +kernel)
theorem kw4_178 : (Jvm.Cond.fieldLink "KeptVolunteersModel" (310 : Nat) "KeptVolunteersModel" "hash" "J") ∈ kv_W := kv_t4 (i := 178) (by decide +kernel) (by decide +kernel)
theorem kw4_179 : (Jvm.Cond.laysFinal "KeptVolunteersModel" "KeptVolunteersModel" "page" "[I") ∈ kv_W := kv_t4 (i := 179) (by decide +kernel) (by decide +kernel)
theorem kw4_181 : (Jvm.Cond.lays "KeptVolunteersModel" "KeptVolunteersModel" "pageMany" "I") ∈ kv_W := kv_t4 (i := 181) (by decide +kernel) (by decide +kernel)
theorem kw4_183 : (Jvm.Cond.lays "KeptVolunteersModel" "KeptVolunteersModel" "endAt" "I") ∈ kv_W := kv_t4 (i := 183) (by decide +kernel) (by decide +kernel)
theorem kw4_185 : (Jvm.Cond.lays "KeptVolunteersModel" "KeptVolunteersModel" "tricks" "I") ∈ kv_W := kv_t4 (i := 185) (by decide +kernel) (by decide +kernel)
theorem kw4_187 : (Jvm.Cond.lays "KeptVolunteersModel" "KeptVolunteersModel" "people" "I") ∈ kv_W := kv_t4 (i := 187) (by decide +kernel) (by decide +kernel)
theorem kw4_189 : (Jvm.Cond.lays "KeptVolunteersModel" "KeptVolunteersModel" "town" "I") ∈ kv_W := kv_t4 (i := 189) (by decide +kernel) (by decide +kernel)
theorem kw4_191 : (Jvm.Cond.lays "KeptVolunteersModel" "KeptVolunteersModel" "nights" "I") ∈ kv_W := kv_t4 (i := 191) (by decide +kernel) (by decide +kernel)
theorem kw4_193 : (Jvm.Cond.lays "KeptVolunteersModel" "KeptVolunteersModel" "doneAll" "I") ∈ kv_W := kv_t4 (i := 193) (by decide +kernel) (by decide +kernel)
theorem kw4_195 : (Jvm.Cond.lays "KeptVolunteersModel" "KeptVolunteersModel" "moves" "I") ∈ kv_W := kv_t4 (i := 195) (by decide +kernel) (by decide +kernel)
theorem kw4_197 : (Jvm.Cond.lays "KeptVolunteersModel" "KeptVolunteersModel" "called" "I") ∈ kv_W := kv_t4 (i := 197) (by decide +kernel) (by decide +kernel)
theorem kw4_199 : (Jvm.Cond.lays "KeptVolunteersModel" "KeptVolunteersModel" "gone" "I") ∈ kv_W := kv_t4 (i := 199) (by decide +kernel) (by decide +kernel)
theorem kw4_201 : (Jvm.Cond.lays "KeptVolunteersModel" "KeptVolunteersModel" "showsRead" "I") ∈ kv_W := kv_t4 (i := 201) (by decide +kernel) (by decide +kernel)
theorem kw4_203 : (Jvm.Cond.laysFinal "KeptVolunteersModel" "KeptVolunteersModel" "rows" "[I") ∈ kv_W := kv_t4 (i := 203) (by decide +kernel) (by decide +kernel)
theorem kw4_205 : (Jvm.Cond.laysFinal "KeptVolunteersModel" "KeptVolunteersModel" "folk" "[I") ∈ kv_W := kv_t4 (i := 205) (by decide +kernel) (by decide +kernel)
theorem kw4_207 : (Jvm.Cond.laysFinal "KeptVolunteersModel" "KeptVolunteersModel" "casts" "[I") ∈ kv_W := kv_t4 (i := 207) (by decide +kernel) (by decide +kernel)
theorem kw4_209 : (Jvm.Cond.lays "KeptVolunteersModel" "KeptVolunteersModel" "mostsDone" "I") ∈ kv_W := kv_t4 (i := 209) (by decide +kernel) (by decide +kernel)
theorem kw4_211 : (Jvm.Cond.laysFinal "KeptVolunteersModel" "KeptVolunteersModel" "choices" "[I") ∈ kv_W := kv_t4 (i := 211) (by decide +kernel) (by decide +kernel)
theorem kw4_213 : (Jvm.Cond.laysFinal "KeptVolunteersModel" "KeptVolunteersModel" "choicesMany" "[I") ∈ kv_W := kv_t4 (i := 213) (by decide +kernel) (by decide +kernel)
theorem kw4_215 : (Jvm.Cond.laysFinal "KeptVolunteersModel" "KeptVolunteersModel" "row" "[I") ∈ kv_W := kv_t4 (i := 215) (by decide +kernel) (by decide +kernel)
theorem kw4_217 : (Jvm.Cond.laysFinal "KeptVolunteersModel" "KeptVolunteersModel" "bestRow" "[I") ∈ kv_W := kv_t4 (i := 217) (by decide +kernel) (by decide +kernel)
theorem kw4_219 : (Jvm.Cond.laysFinal "KeptVolunteersModel" "KeptVolunteersModel" "places" "[I") ∈ kv_W := kv_t4 (i := 219) (by decide +kernel) (by decide +kernel)
theorem kw4_221 : (Jvm.Cond.lays "KeptVolunteersModel" "KeptVolunteersModel" "fewestsDone" "I") ∈ kv_W := kv_t4 (i := 221) (by decide +kernel) (by decide +kernel)
theorem kw4_223 : (Jvm.Cond.lays "KeptVolunteersModel" "KeptVolunteersModel" "sparesDone" "I") ∈ kv_W := kv_t4 (i := 223) (by decide +kernel) (by decide +kernel)
theorem kw4_225 : (Jvm.Cond.lays "KeptVolunteersModel" "KeptVolunteersModel" "seenMany" "I") ∈ kv_W := kv_t4 (i := 225) (by decide +kernel) (by decide +kernel)
theorem kw4_227 : (Jvm.Cond.laysFinal "KeptVolunteersModel" "KeptVolunteersModel" "sights" "[I") ∈ kv_W := kv_t4 (i := 227) (by decide +kernel) (by decide +kernel)
theorem kw4_229 : (Jvm.Cond.lays "KeptVolunteersModel" "KeptVolunteersModel" "seedNow" "I") ∈ kv_W := kv_t4 (i := 229) (by decide +kernel) (by decide +kernel)
theorem kw4_231 : (Jvm.Cond.laysFinal "KeptVolunteersModel" "KeptVolunteersModel" "line" "[I") ∈ kv_W := kv_t4 (i := 231) (by decide +kernel) (by decide +kernel)
theorem kw4_233 : (Jvm.Cond.laysFinal "KeptVolunteersModel" "KeptVolunteersModel" "lineIn" "[I") ∈ kv_W := kv_t4 (i := 233) (by decide +kernel) (by decide +kernel)
theorem kw4_235 : (Jvm.Cond.laysFinal "KeptVolunteersModel" "KeptVolunteersModel" "lineDone" "[I") ∈ kv_W := kv_t4 (i := 235) (by decide +kernel) (by decide +kernel)
theorem kw4_237 : (Jvm.Cond.lays "KeptVolunteersModel" "KeptVolunteersModel" "lineMany" "I") ∈ kv_W := kv_t4 (i := 237) (by decide +kernel) (by decide +kernel)
theorem kw4_239 : (Jvm.Cond.lays "KeptVolunteersModel" "KeptVolunteersModel" "keptShow" "I") ∈ kv_W := kv_t4 (i := 239) (by decide +kernel) (by decide +kernel)
theorem kw5_1 : (Jvm.Cond.lays "KeptVolunteersModel" "KeptVolunteersModel" "keptTown" "I") ∈ kv_W := kv_t5 (i := 1) (by decide +kernel) (by decide +kernel)
theorem kw5_3 : (Jvm.Cond.lays "KeptVolunteersModel" "KeptVolunteersModel" "keptNights" "I") ∈ kv_W := kv_t5 (i := 3) (by decide +kernel) (by decide +kernel)
theorem kw5_5 : (Jvm.Cond.lays "KeptVolunteersModel" "KeptVolunteersModel" "keptDone" "I") ∈ kv_W := kv_t5 (i := 5) (by decide +kernel) (by decide +kernel)
theorem kw5_7 : (Jvm.Cond.lays "KeptVolunteersModel" "KeptVolunteersModel" "keptMoves" "I") ∈ kv_W := kv_t5 (i := 7) (by decide +kernel) (by decide +kernel)
theorem kw5_9 : (Jvm.Cond.lays "KeptVolunteersModel" "KeptVolunteersModel" "keptCalled" "I") ∈ kv_W := kv_t5 (i := 9) (by decide +kernel) (by decide +kernel)
theorem kw5_11 : (Jvm.Cond.lays "KeptVolunteersModel" "KeptVolunteersModel" "keptGone" "I") ∈ kv_W := kv_t5 (i := 11) (by decide +kernel) (by decide +kernel)
theorem kw5_13 : (Jvm.Cond.lays "KeptVolunteersModel" "KeptVolunteersModel" "keptSeen" "I") ∈ kv_W := kv_t5 (i := 13) (by decide +kernel) (by decide +kernel)
theorem kw5_15 : (Jvm.Cond.laysFinal "KeptVolunteersModel" "KeptVolunteersModel" "keptFolk" "[I") ∈ kv_W := kv_t5 (i := 15) (by decide +kernel) (by decide +kernel)
theorem kw5_17 : (Jvm.Cond.laysFinal "KeptVolunteersModel" "KeptVolunteersModel" "keptCasts" "[I") ∈ kv_W := kv_t5 (i := 17) (by decide +kernel) (by decide +kernel)
theorem kw5_19 : (Jvm.Cond.laysFinal "KeptVolunteersModel" "KeptVolunteersModel" "keptSights" "[I") ∈ kv_W := kv_t5 (i := 19) (by decide +kernel) (by decide +kernel)
theorem kw5_21 : (Jvm.Cond.lays "KeptVolunteersModel" "KeptVolunteersModel" "hash" "J") ∈ kv_W := kv_t5 (i := 21) (by decide +kernel) (by decide +kernel)
theorem kw5_24 : (Jvm.Cond.methodLink "KeptVolunteersLaw" (17 : Nat) ({ cls := "KeptVolunteersModel", name := "letter", desc := "(I)I" } : Jvm.MethodName)) ∈ kv_W := kv_t5 (i := 24) (by decide +kernel) (by decide +kernel)
theorem kw5_25 : (Jvm.Cond.instanceMethod ({ cls := "KeptVolunteersModel", name := "letter", desc := "(I)I" } : Jvm.MethodName)) ∈ kv_W := kv_t5 (i := 25) (by decide +kernel) (by decide +kernel)
theorem kw5_26 : (Jvm.Cond.selects "KeptVolunteersModel" ({ cls := "KeptVolunteersModel", name := "letter", desc := "(I)I" } : Jvm.MethodName) ({ cls := "KeptVolunteersModel", name := "letter", desc := "(I)I" } : Jvm.MethodName)) ∈ kv_W := kv_t5 (i := 26) (by decide +kernel) (by decide +kernel)
theorem kw5_27 : (Jvm.Cond.code ({ cls := "KeptVolunteersModel", name := "letter", desc := "(I)I" } : Jvm.MethodName) prog_13_method_5_code (2 : Nat) (Option.some Jvm.ClassFile.FieldType.int)) ∈ kv_W := kv_t5 (i := 27) (by decide +kernel) (by decide +kernel)
theorem kw5_28 : (Jvm.Cond.constantLong "KeptVolunteersModel" (62 : Nat) (126 : Int64)) ∈ kv_W := kv_t5 (i := 28) (by decide +kernel) (by decide +kernel)
theorem kw5_29 : (Jvm.Cond.methodLink "KeptVolunteersModel" (64 : Nat) ({ cls := "KeptVolunteersModel", name := "in", desc := "(JJJ)Z" } : Jvm.MethodName)) ∈ kv_W := kv_t5 (i := 29) (by decide +kernel) (by decide +kernel)
theorem kw5_30 : (Jvm.Cond.static ({ cls := "KeptVolunteersModel", name := "in", desc := "(JJJ)Z" } : Jvm.MethodName)) ∈ kv_W := kv_t5 (i := 30) (by decide +kernel) (by decide +kernel)
theorem kw5_31 : (Jvm.Cond.code ({ cls := "KeptVolunteersModel", name := "in", desc := "(JJJ)Z" } : Jvm.MethodName) prog_13_method_2_code (6 : Nat) (Option.some Jvm.ClassFile.FieldType.boolean)) ∈ kv_W := kv_t5 (i := 31) (by decide +kernel) (by decide +kernel)
theorem kw5_32 : (Jvm.Cond.methodLink "KeptVolunteersLaw" (22 : Nat) ({ cls := "KeptVolunteersModel", name := "blank", desc := "()I" } : Jvm.MethodName)) ∈ kv_W := kv_t5 (i := 32) (by decide +kernel) (by decide +kernel)
theorem kw5_33 : (Jvm.Cond.instanceMethod ({ cls := "KeptVolunteersModel", name := "blank", desc := "()I" } : Jvm.MethodName)) ∈ kv_W := kv_t5 (i := 33) (by decide +kernel) (by decide +kernel)
theorem kw5_34 : (Jvm.Cond.selects "KeptVolunteersModel" ({ cls := "KeptVolunteersModel", name := "blank", desc := "()I" } : Jvm.MethodName) ({ cls := "KeptVolunteersModel", name := "blank", desc := "()I" } : Jvm.MethodName)) ∈ kv_W := kv_t5 (i := 34) (by decide +kernel) (by decide +kernel)
theorem kw5_35 : (Jvm.Cond.code ({ cls := "KeptVolunteersModel", name := "blank", desc := "()I" } : Jvm.MethodName) prog_13_method_6_code (2 : Nat) (Option.some Jvm.ClassFile.FieldType.int)) ∈ kv_W := kv_t5 (i := 35) (by decide +kernel) (by decide +kernel)
theorem kw5_36 : (Jvm.Cond.methodLink "KeptVolunteersLaw" (26 : Nat) ({ cls := "KeptVolunteersModel", name := "fault", desc := "()I" } : Jvm.MethodName)) ∈ kv_W := kv_t5 (i := 36) (by decide +kernel) (by decide +kernel)
theorem kw5_37 : (Jvm.Cond.instanceMethod ({ cls := "KeptVolunteersModel", name := "fault", desc := "()I" } : Jvm.MethodName)) ∈ kv_W := kv_t5 (i := 37) (by decide +kernel) (by decide +kernel)
theorem kw5_38 : (Jvm.Cond.selects "KeptVolunteersModel" ({ cls := "KeptVolunteersModel", name := "fault", desc := "()I" } : Jvm.MethodName) ({ cls := "KeptVolunteersModel", name := "fault", desc := "()I" } : Jvm.MethodName)) ∈ kv_W := kv_t5 (i := 38) (by decide +kernel) (by decide +kernel)
theorem kw5_39 : (Jvm.Cond.code ({ cls := "KeptVolunteersModel", name := "fault", desc := "()I" } : Jvm.MethodName) prog_13_method_11_code (1 : Nat) (Option.some Jvm.ClassFile.FieldType.int)) ∈ kv_W := kv_t5 (i := 39) (by decide +kernel) (by decide +kernel)
theorem kw5_40 : (Jvm.Cond.methodLink "KeptVolunteersModel" (97 : Nat) ({ cls := "KeptVolunteersModel", name := "faultOf", desc := "()I" } : Jvm.MethodName)) ∈ kv_W := kv_t5 (i := 40) (by decide +kernel) (by decide +kernel)
theorem kw5_42 : (Jvm.Cond.instanceMethod ({ cls := "KeptVolunteersModel", name := "faultOf", desc := "()I" } : Jvm.MethodName)) ∈ kv_W := kv_t5 (i := 42) (by decide +kernel) (by decide +kernel)
theorem kw5_43 : (Jvm.Cond.code ({ cls := "KeptVolunteersModel", name := "faultOf", desc := "()I" } : Jvm.MethodName) prog_13_method_10_code (2 : Nat) (Option.some Jvm.ClassFile.FieldType.int)) ∈ kv_W := kv_t5 (i := 43) (by decide +kernel) (by decide +kernel)
theorem kw5_44 : (Jvm.Cond.methodLink "KeptVolunteersModel" (94 : Nat) ({ cls := "KeptVolunteersModel", name := "isGood", desc := "(I)Z" } : Jvm.MethodName)) ∈ kv_W := kv_t5 (i := 44) (by decide +kernel) (by decide +kernel)
theorem kw5_46 : (Jvm.Cond.instanceMethod ({ cls := "KeptVolunteersModel", name := "isGood", desc := "(I)Z" } : Jvm.MethodName)) ∈ kv_W := kv_t5 (i := 46) (by decide +kernel) (by decide +kernel)
theorem kw5_47 : (Jvm.Cond.code ({ cls := "KeptVolunteersModel", name := "isGood", desc := "(I)Z" } : Jvm.MethodName) prog_13_method_9_code (3 : Nat) (Option.some Jvm.ClassFile.FieldType.boolean)) ∈ kv_W := kv_t5 (i := 47) (by decide +kernel) (by decide +kernel)
theorem kw5_48 : (Jvm.Cond.constantLong "KeptVolunteersModel" (75 : Nat) (48 : Int64)) ∈ kv_W := kv_t5 (i := 48) (by decide +kernel) (by decide +kernel)
theorem kw5_49 : (Jvm.Cond.constantLong "KeptVolunteersModel" (83 : Nat) (57 : Int64)) ∈ kv_W := kv_t5 (i := 49) (by decide +kernel) (by decide +kernel)
theorem kw5_50 : (Jvm.Cond.constantLong "KeptVolunteersModel" (88 : Nat) (53 : Int64)) ∈ kv_W := kv_t5 (i := 50) (by decide +kernel) (by decide +kernel)
theorem kw5_51 : (Jvm.Cond.methodLink "KeptVolunteersModel" (90 : Nat) ({ cls := "KeptVolunteersModel", name := "isTrickLetter", desc := "(I)Z" } : Jvm.MethodName)) ∈ kv_W := kv_t5 (i := 51) (by decide +kernel) (by decide +kernel)
theorem kw5_53 : (Jvm.Cond.instanceMethod ({ cls := "KeptVolunteersModel", name := "isTrickLetter", desc := "(I)Z" } : Jvm.MethodName)) ∈ kv_W := kv_t5 (i := 53) (by decide +kernel) (by decide +kernel)
theorem kw5_54 : (Jvm.Cond.code ({ cls := "KeptVolunteersModel", name := "isTrickLetter", desc := "(I)Z" } : Jvm.MethodName) prog_13_method_8_code (3 : Nat) (Option.some Jvm.ClassFile.FieldType.boolean)) ∈ kv_W := kv_t5 (i := 54) (by decide +kernel) (by decide +kernel)
theorem kw5_55 : (Jvm.Cond.methodLink "KeptVolunteersModel" (71 : Nat) ({ cls := "KeptVolunteersModel", name := "kindBy", desc := "(I)I" } : Jvm.MethodName)) ∈ kv_W := kv_t5 (i := 55) (by decide +kernel) (by decide +kernel)
theorem kw5_56 : (Jvm.Cond.static ({ cls := "KeptVolunteersModel", name := "kindBy", desc := "(I)I" } : Jvm.MethodName)) ∈ kv_W := kv_t5 (i := 56) (by decide +kernel) (by decide +kernel)
theorem kw5_57 : (Jvm.Cond.code ({ cls := "KeptVolunteersModel", name := "kindBy", desc := "(I)I" } : Jvm.MethodName) prog_13_method_7_code (1 : Nat) (Option.some Jvm.ClassFile.FieldType.int)) ∈ kv_W := kv_t5 (i := 57) (by decide +kernel) (by decide +kernel)
theorem kw5_58 : (Jvm.Cond.constantLong "KeptVolunteersModel" (77 : Nat) (55 : Int64)) ∈ kv_W := kv_t5 (i := 58) (by decide +kernel) (by decide +kernel)
theorem kw5_59 : (Jvm.Cond.constantLong "KeptVolunteersModel" (79 : Nat) (49 : Int64)) ∈ kv_W := kv_t5 (i := 59) (by decide +kernel) (by decide +kernel)
theorem kw5_60 : (Jvm.Cond.constantLong "KeptVolunteersModel" (81 : Nat) (52 : Int64)) ∈ kv_W := kv_t5 (i := 60) (by decide +kernel) (by decide +kernel)
theorem kw5_61 : (Jvm.Cond.methodLink "KeptVolunteersLaw" (30 : Nat) ({ cls := "KeptVolunteersModel", name := "show", desc := "()I" } : Jvm.MethodName)) ∈ kv_W := kv_t5 (i := 61) (by decide +kernel) (by decide +kernel)
theorem kw5_62 : (Jvm.Cond.instanceMethod ({ cls := "KeptVolunteersModel", name := "show", desc := "()I" } : Jvm.MethodName)) ∈ kv_W := kv_t5 (i := 62) (by decide +kernel) (by decide +kernel)
theorem kw5_63 : (Jvm.Cond.selects "KeptVolunteersModel" ({ cls := "KeptVolunteersModel", name := "show", desc := "()I" } : Jvm.MethodName) ({ cls := "KeptVolunteersModel", name := "show", desc := "()I" } : Jvm.MethodName)) ∈ kv_W := kv_t5 (i := 63) (by decide +kernel) (by decide +kernel)
theorem kw5_64 : (Jvm.Cond.code ({ cls := "KeptVolunteersModel", name := "show", desc := "()I" } : Jvm.MethodName) prog_13_method_12_code (2 : Nat) (Option.some Jvm.ClassFile.FieldType.int)) ∈ kv_W := kv_t5 (i := 64) (by decide +kernel) (by decide +kernel)
theorem kw5_65 : (Jvm.Cond.methodLink "KeptVolunteersLaw" (35 : Nat) ({ cls := "KeptVolunteersModel", name := "trick", desc := "(II)I" } : Jvm.MethodName)) ∈ kv_W := kv_t5 (i := 65) (by decide +kernel) (by decide +kernel)
theorem kw5_66 : (Jvm.Cond.instanceMethod ({ cls := "KeptVolunteersModel", name := "trick", desc := "(II)I" } : Jvm.MethodName)) ∈ kv_W := kv_t5 (i := 66) (by decide +kernel) (by decide +kernel)
theorem kw5_67 : (Jvm.Cond.selects "KeptVolunteersModel" ({ cls := "KeptVolunteersModel", name := "trick", desc := "(II)I" } : Jvm.MethodName) ({ cls := "KeptVolunteersModel", name := "trick", desc := "(II)I" } : Jvm.MethodName)) ∈ kv_W := kv_t5 (i := 67) (by decide +kernel) (by decide +kernel)
theorem kw5_68 : (Jvm.Cond.code ({ cls := "KeptVolunteersModel", name := "trick", desc := "(II)I" } : Jvm.MethodName) prog_13_method_28_code (3 : Nat) (Option.some Jvm.ClassFile.FieldType.int)) ∈ kv_W := kv_t5 (i := 68) (by decide +kernel) (by decide +kernel)
theorem kw5_69 : (Jvm.Cond.methodLink "KeptVolunteersModel" (165 : Nat) ({ cls := "KeptVolunteersModel", name := "isTrick", desc := "(I)Z" } : Jvm.MethodName)) ∈ kv_W := kv_t5 (i := 69) (by decide +kernel) (by decide +kernel)
theorem kw5_71 : (Jvm.Cond.instanceMethod ({ cls := "KeptVolunteersModel", name := "isTrick", desc := "(I)Z" } : Jvm.MethodName)) ∈ kv_W := kv_t5 (i := 71) (by decide +kernel) (by decide +kernel)
theorem kw5_72 : (Jvm.Cond.code ({ cls := "KeptVolunteersModel", name := "isTrick", desc := "(I)Z" } : Jvm.MethodName) prog_13_method_14_code (2 : Nat) (Option.some Jvm.ClassFile.FieldType.boolean)) ∈ kv_W := kv_t5 (i := 72) (by decide +kernel) (by decide +kernel)
theorem kw5_73 : (Jvm.Cond.methodLink "KeptVolunteersModel" (168 : Nat) ({ cls := "KeptVolunteersModel", name := "tellTrick", desc := "(II)I" } : Jvm.MethodName)) ∈ kv_W := kv_t5 (i := 73) (by decide +kernel) (by decide +kernel)
theorem kw5_75 : (Jvm.Cond.instanceMethod ({ cls := "KeptVolunteersModel", name := "tellTrick", desc := "(II)I" } : Jvm.MethodName)) ∈ kv_W := kv_t5 (i := 75) (by decide +kernel) (by decide +kernel)
theorem kw5_76 : (Jvm.Cond.code ({ cls := "KeptVolunteersModel", name := "tellTrick", desc := "(II)I" } : Jvm.MethodName) prog_13_method_27_code (3 : Nat) (Option.some Jvm.ClassFile.FieldType.int)) ∈ kv_W := kv_t5 (i := 76) (by decide +kernel) (by decide +kernel)
theorem kw5_77 : (Jvm.Cond.methodLink "KeptVolunteersModel" (144 : Nat) ({ cls := "KeptVolunteersModel", name := "wantsOf", desc := "(I)I" } : Jvm.MethodName)) ∈ kv_W := kv_t5 (i := 77) (by decide +kernel) (by decide +kernel)
theorem kw5_79 : (Jvm.Cond.instanceMethod ({ cls := "KeptVolunteersModel", name := "wantsOf", desc := "(I)I" } : Jvm.MethodName)) ∈ kv_W := kv_t5 (i := 79) (by decide +kernel) (by decide +kernel)
theorem kw5_80 : (Jvm.Cond.code ({ cls := "KeptVolunteersModel", name := "wantsOf", desc := "(I)I" } : Jvm.MethodName) prog_13_method_18_code (2 : Nat) (Option.some Jvm.ClassFile.FieldType.int)) ∈ kv_W := kv_t5 (i := 80) (by decide +kernel) (by decide +kernel)
theorem kw5_81 : (Jvm.Cond.methodLink "KeptVolunteersModel" (159 : Nat) ({ cls := "KeptVolunteersModel", name := "isDoneBy", desc := "(II)Z" } : Jvm.MethodName)) ∈ kv_W := kv_t5 (i := 81) (by decide +kernel) (by decide +kernel)
theorem kw5_83 : (Jvm.Cond.instanceMethod ({ cls := "KeptVolunteersModel", name := "isDoneBy", desc := "(II)Z" } : Jvm.MethodName)) ∈ kv_W := kv_t5 (i := 83) (by decide +kernel) (by decide +kernel)
theorem kw5_84 : (Jvm.Cond.code ({ cls := "KeptVolunteersModel", name := "isDoneBy", desc := "(II)Z" } : Jvm.MethodName) prog_13_method_22_code (4 : Nat) (Option.some Jvm.ClassFile.FieldType.boolean)) ∈ kv_W := kv_t5 (i := 84) (by decide +kernel) (by decide +kernel)
theorem kw5_85 : (Jvm.Cond.methodLink "KeptVolunteersModel" (138 : Nat) ({ cls := "KeptVolunteersModel", name := "strongAll", desc := "(I)I" } : Jvm.MethodName)) ∈ kv_W := kv_t5 (i := 85) (by decide +kernel) (by decide +kernel)
theorem kw5_87 : (Jvm.Cond.instanceMethod ({ cls := "KeptVolunteersModel", name := "strongAll", desc := "(I)I" } : Jvm.MethodName)) ∈ kv_W := kv_t5 (i := 87) (by decide +kernel) (by decide +kernel)
theorem kw5_88 : (Jvm.Cond.code ({ cls := "KeptVolunteersModel", name := "strongAll", desc := "(I)I" } : Jvm.MethodName) prog_13_method_21_code (4 : Nat) (Option.some Jvm.ClassFile.FieldType.int)) ∈ kv_W := kv_t5 (i := 88) (by decide +kernel) (by decide +kernel)
theorem kw5_89 : (Jvm.Cond.methodLink "KeptVolunteersModel" (141 : Nat) ({ cls := "KeptVolunteersModel", name := "ones", desc := "(I)I" } : Jvm.MethodName)) ∈ kv_W := kv_t5 (i := 89) (by decide +kernel) (by decide +kernel)
theorem kw5_90 : (Jvm.Cond.static ({ cls := "KeptVolunteersModel", name := "ones", desc := "(I)I" } : Jvm.MethodName)) ∈ kv_W := kv_t5 (i := 90) (by decide +kernel) (by decide +kernel)
theorem kw5_91 : (Jvm.Cond.code ({ cls := "KeptVolunteersModel", name := "ones", desc := "(I)I" } : Jvm.MethodName) prog_13_method_4_code (3 : Nat) (Option.some Jvm.ClassFile.FieldType.int)) ∈ kv_W := kv_t5 (i := 91) (by decide +kernel) (by decide +kernel)
theorem kw5_92 : (Jvm.Cond.methodLink "KeptVolunteersModel" (147 : Nat) ({ cls := "KeptVolunteersModel", name := "fittingSet", desc := "(I)I" } : Jvm.MethodName)) ∈ kv_W := kv_t5 (i := 92) (by decide +kernel) (by decide +kernel)
theorem kw5_94 : (Jvm.Cond.instanceMethod ({ cls := "KeptVolunteersModel", name := "fittingSet", desc := "(I)I" } : Jvm.MethodName)) ∈ kv_W := kv_t5 (i := 94) (by decide +kernel) (by decide +kernel)
theorem kw5_95 : (Jvm.Cond.code ({ cls := "KeptVolunteersModel", name := "fittingSet", desc := "(I)I" } : Jvm.MethodName) prog_13_method_20_code (4 : Nat) (Option.some Jvm.ClassFile.FieldType.int)) ∈ kv_W := kv_t5 (i := 95) (by decide +kernel) (by decide +kernel)
theorem kw5_96 : (Jvm.Cond.methodLink "KeptVolunteersModel" (131 : Nat) ({ cls := "KeptVolunteersModel", name := "isKept", desc := "(I)Z" } : Jvm.MethodName)) ∈ kv_W := kv_t5 (i := 96) (by decide +kernel) (by decide +kernel)
theorem kw5_98 : (Jvm.Cond.instanceMethod ({ cls := "KeptVolunteersModel", name := "isKept", desc := "(I)Z" } : Jvm.MethodName)) ∈ kv_W := kv_t5 (i := 98) (by decide +kernel) (by decide +kernel)
theorem kw5_99 : (Jvm.Cond.code ({ cls := "KeptVolunteersModel", name := "isKept", desc := "(I)Z" } : Jvm.MethodName) prog_13_method_16_code (2 : Nat) (Option.some Jvm.ClassFile.FieldType.boolean)) ∈ kv_W := kv_t5 (i := 99) (by decide +kernel) (by decide +kernel)
theorem kw5_100 : (Jvm.Cond.methodLink "KeptVolunteersModel" (134 : Nat) ({ cls := "KeptVolunteersModel", name := "fitsBy", desc := "(II)Z" } : Jvm.MethodName)) ∈ kv_W := kv_t5 (i := 100) (by decide +kernel) (by decide +kernel)
theorem kw5_102 : (Jvm.Cond.instanceMethod ({ cls := "KeptVolunteersModel", name := "fitsBy", desc := "(II)Z" } : Jvm.MethodName)) ∈ kv_W := kv_t5 (i := 102) (by decide +kernel) (by decide +kernel)
theorem kw5_103 : (Jvm.Cond.code ({ cls := "KeptVolunteersModel", name := "fitsBy", desc := "(II)Z" } : Jvm.MethodName) prog_13_method_19_code (5 : Nat) (Option.some Jvm.ClassFile.FieldType.boolean)) ∈ kv_W := kv_t5 (i := 103) (by decide +kernel) (by decide +kernel)
theorem kw5_104 : (Jvm.Cond.methodLink "KeptVolunteersModel" (162 : Nat) ({ cls := "KeptVolunteersModel", name := "clashSet", desc := "(I)I" } : Jvm.MethodName)) ∈ kv_W := kv_t5 (i := 104) (by decide +kernel) (by decide +kernel)
theorem kw5_106 : (Jvm.Cond.instanceMethod ({ cls := "KeptVolunteersModel", name := "clashSet", desc := "(I)I" } : Jvm.MethodName)) ∈ kv_W := kv_t5 (i := 106) (by decide +kernel) (by decide +kernel)
theorem kw5_107 : (Jvm.Cond.code ({ cls := "KeptVolunteersModel", name := "clashSet", desc := "(I)I" } : Jvm.MethodName) prog_13_method_26_code (4 : Nat) (Option.some Jvm.ClassFile.FieldType.int)) ∈ kv_W := kv_t5 (i := 107) (by decide +kernel) (by decide +kernel)
theorem kw5_108 : (Jvm.Cond.methodLink "KeptVolunteersModel" (156 : Nat) ({ cls := "KeptVolunteersModel", name := "clash", desc := "(II)Z" } : Jvm.MethodName)) ∈ kv_W := kv_t5 (i := 108) (by decide +kernel) (by decide +kernel)
theorem kw5_110 : (Jvm.Cond.instanceMethod ({ cls := "KeptVolunteersModel", name := "clash", desc := "(II)Z" } : Jvm.MethodName)) ∈ kv_W := kv_t5 (i := 110) (by decide +kernel) (by decide +kernel)
theorem kw5_111 : (Jvm.Cond.code ({ cls := "KeptVolunteersModel", name := "clash", desc := "(II)Z" } : Jvm.MethodName) prog_13_method_25_code (3 : Nat) (Option.some Jvm.ClassFile.FieldType.boolean)) ∈ kv_W := kv_t5 (i := 111) (by decide +kernel) (by decide +kernel)
theorem kw5_112 : (Jvm.Cond.methodLink "KeptVolunteersModel" (153 : Nat) ({ cls := "KeptVolunteersModel", name := "busyBy", desc := "(I)I" } : Jvm.MethodName)) ∈ kv_W := kv_t5 (i := 112) (by decide +kernel) (by decide +kernel)
theorem kw5_114 : (Jvm.Cond.instanceMethod ({ cls := "KeptVolunteersModel", name := "busyBy", desc := "(I)I" } : Jvm.MethodName)) ∈ kv_W := kv_t5 (i := 114) (by decide +kernel) (by decide +kernel)
theorem kw5_115 : (Jvm.Cond.code ({ cls := "KeptVolunteersModel", name := "busyBy", desc := "(I)I" } : Jvm.MethodName) prog_13_method_24_code (3 : Nat) (Option.some Jvm.ClassFile.FieldType.int)) ∈ kv_W := kv_t5 (i := 115) (by decide +kernel) (by decide +kernel)
theorem kw5_116 : (Jvm.Cond.methodLink "KeptVolunteersModel" (150 : Nat) ({ cls := "KeptVolunteersModel", name := "hoursOf", desc := "(I)I" } : Jvm.MethodName)) ∈ kv_W := kv_t5 (i := 116) (by decide +kernel) (by decide +kernel)
theorem kw5_118 : (Jvm.Cond.instanceMethod ({ cls := "KeptVolunteersModel", name := "hoursOf", desc := "(I)I" } : Jvm.MethodName)) ∈ kv_W := kv_t5 (i := 118) (by decide +kernel) (by decide +kernel)
theorem kw5_119 : (Jvm.Cond.code ({ cls := "KeptVolunteersModel", name := "hoursOf", desc := "(I)I" } : Jvm.MethodName) prog_13_method_23_code (2 : Nat) (Option.some Jvm.ClassFile.FieldType.int)) ∈ kv_W := kv_t5 (i := 119) (by decide +kernel) (by decide +kernel)
theorem kw5_120 : (Jvm.Cond.methodLink "KeptVolunteersLaw" (39 : Nat) ({ cls := "KeptVolunteersModel", name := "as", desc := "(II)I" } : Jvm.MethodName)) ∈ kv_W := kv_t5 (i := 120) (by decide +kernel) (by decide +kernel)
theorem kw5_121 : (Jvm.Cond.instanceMethod ({ cls := "KeptVolunteersModel", name := "as", desc := "(II)I" } : Jvm.MethodName)) ∈ kv_W := kv_t5 (i := 121) (by decide +kernel) (by decide +kernel)
theorem kw5_122 : (Jvm.Cond.selects "KeptVolunteersModel" ({ cls := "KeptVolunteersModel", name := "as", desc := "(II)I" } : Jvm.MethodName) ({ cls := "KeptVolunteersModel", name := "as", desc := "(II)I" } : Jvm.MethodName)) ∈ kv_W := kv_t5 (i := 122) (by decide +kernel) (by decide +kernel)
theorem kw5_123 : (Jvm.Cond.code ({ cls := "KeptVolunteersModel", name := "as", desc := "(II)I" } : Jvm.MethodName) prog_13_method_29_code (5 : Nat) (Option.some Jvm.ClassFile.FieldType.int)) ∈ kv_W := kv_t5 (i := 123) (by decide +kernel) (by decide +kernel)
theorem kw5_124 : (Jvm.Cond.constantLong "KeptVolunteersModel" (172 : Nat) (4 : Int64)) ∈ kv_W := kv_t5 (i := 124) (by decide +kernel) (by decide +kernel)
theorem kw5_125 : (Jvm.Cond.methodLink "KeptVolunteersLaw" (43 : Nat) ({ cls := "KeptVolunteersModel", name := "person", desc := "(II)I" } : Jvm.MethodName)) ∈ kv_W := kv_t5 (i := 125) (by decide +kernel) (by decide +kernel)
theorem kw5_126 : (Jvm.Cond.instanceMethod ({ cls := "KeptVolunteersModel", name := "person", desc := "(II)I" } : Jvm.MethodName)) ∈ kv_W := kv_t5 (i := 126) (by decide +kernel) (by decide +kernel)
theorem kw5_127 : (Jvm.Cond.selects "KeptVolunteersModel" ({ cls := "KeptVolunteersModel", name := "person", desc := "(II)I" } : Jvm.MethodName) ({ cls := "KeptVolunteersModel", name := "person", desc := "(II)I" } : Jvm.MethodName)) ∈ kv_W := kv_t5 (i := 127) (by decide +kernel) (by decide +kernel)
theorem kw5_128 : (Jvm.Cond.code ({ cls := "KeptVolunteersModel", name := "person", desc := "(II)I" } : Jvm.MethodName) prog_13_method_33_code (3 : Nat) (Option.some Jvm.ClassFile.FieldType.int)) ∈ kv_W := kv_t5 (i := 128) (by decide +kernel) (by decide +kernel)
theorem kw5_129 : (Jvm.Cond.methodLink "KeptVolunteersModel" (186 : Nat) ({ cls := "KeptVolunteersModel", name := "isPerson", desc := "(I)Z" } : Jvm.MethodName)) ∈ kv_W := kv_t5 (i := 129) (by decide +kernel) (by decide +kernel)
theorem kw5_131 : (Jvm.Cond.instanceMethod ({ cls := "KeptVolunteersModel", name := "isPerson", desc := "(I)Z" } : Jvm.MethodName)) ∈ kv_W := kv_t5 (i := 131) (by decide +kernel) (by decide +kernel)
theorem kw5_132 : (Jvm.Cond.code ({ cls := "KeptVolunteersModel", name := "isPerson", desc := "(I)Z" } : Jvm.MethodName) prog_13_method_15_code (2 : Nat) (Option.some Jvm.ClassFile.FieldType.boolean)) ∈ kv_W := kv_t5 (i := 132) (by decide +kernel) (by decide +kernel)
theorem kw5_133 : (Jvm.Cond.methodLink "KeptVolunteersModel" (189 : Nat) ({ cls := "KeptVolunteersModel", name := "tellPerson", desc := "(II)I" } : Jvm.MethodName)) ∈ kv_W := kv_t5 (i := 133) (by decide +kernel) (by decide +kernel)
theorem kw5_135 : (Jvm.Cond.instanceMethod ({ cls := "KeptVolunteersModel", name := "tellPerson", desc := "(II)I" } : Jvm.MethodName)) ∈ kv_W := kv_t5 (i := 135) (by decide +kernel) (by decide +kernel)
theorem kw5_136 : (Jvm.Cond.code ({ cls := "KeptVolunteersModel", name := "tellPerson", desc := "(II)I" } : Jvm.MethodName) prog_13_method_32_code (3 : Nat) (Option.some Jvm.ClassFile.FieldType.int)) ∈ kv_W := kv_t5 (i := 136) (by decide +kernel) (by decide +kernel)
theorem kw5_137 : (Jvm.Cond.methodLink "KeptVolunteersModel" (174 : Nat) ({ cls := "KeptVolunteersModel", name := "castSet", desc := "(I)I" } : Jvm.MethodName)) ∈ kv_W := kv_t5 (i := 137) (by decide +kernel) (by decide +kernel)
theorem kw5_139 : (Jvm.Cond.instanceMethod ({ cls := "KeptVolunteersModel", name := "castSet", desc := "(I)I" } : Jvm.MethodName)) ∈ kv_W := kv_t5 (i := 139) (by decide +kernel) (by decide +kernel)
theorem kw5_140 : (Jvm.Cond.code ({ cls := "KeptVolunteersModel", name := "castSet", desc := "(I)I" } : Jvm.MethodName) prog_13_method_30_code (4 : Nat) (Option.some Jvm.ClassFile.FieldType.int)) ∈ kv_W := kv_t5 (i := 140) (by decide +kernel) (by decide +kernel)
theorem kw5_141 : (Jvm.Cond.methodLink "KeptVolunteersModel" (177 : Nat) ({ cls := "KeptVolunteersModel", name := "busySet", desc := "(I)I" } : Jvm.MethodName)) ∈ kv_W := kv_t5 (i := 141) (by decide +kernel) (by decide +kernel)
theorem kw5_143 : (Jvm.Cond.instanceMethod ({ cls := "KeptVolunteersModel", name := "busySet", desc := "(I)I" } : Jvm.MethodName)) ∈ kv_W := kv_t5 (i := 143) (by decide +kernel) (by decide +kernel)
theorem kw5_144 : (Jvm.Cond.code ({ cls := "KeptVolunteersModel", name := "busySet", desc := "(I)I" } : Jvm.MethodName) prog_13_method_31_code (4 : Nat) (Option.some Jvm.ClassFile.FieldType.int)) ∈ kv_W := kv_t5 (i := 144) (by decide +kernel) (by decide +kernel)
theorem kw5_145 : (Jvm.Cond.methodLink "KeptVolunteersModel" (180 : Nat) ({ cls := "KeptVolunteersModel", name := "strongsOf", desc := "(I)I" } : Jvm.MethodName)) ∈ kv_W := kv_t5 (i := 145) (by decide +kernel) (by decide +kernel)
theorem kw5_147 : (Jvm.Cond.instanceMethod ({ cls := "KeptVolunteersModel", name := "strongsOf", desc := "(I)I" } : Jvm.MethodName)) ∈ kv_W := kv_t5 (i := 147) (by decide +kernel) (by decide +kernel)
theorem kw5_148 : (Jvm.Cond.code ({ cls := "KeptVolunteersModel", name := "strongsOf", desc := "(I)I" } : Jvm.MethodName) prog_13_method_60_code (7 : Nat) (Option.some Jvm.ClassFile.FieldType.int)) ∈ kv_W := kv_t5 (i := 148) (by decide +kernel) (by decide +kernel)
theorem kw5_149 : (Jvm.Cond.methodLink "KeptVolunteersModel" (183 : Nat) ({ cls := "KeptVolunteersModel", name := "tryOf", desc := "(I)I" } : Jvm.MethodName)) ∈ kv_W := kv_t5 (i := 149) (by decide +kernel) (by decide +kernel)
theorem kw5_151 : (Jvm.Cond.instanceMethod ({ cls := "KeptVolunteersModel", name := "tryOf", desc := "(I)I" } : Jvm.MethodName)) ∈ kv_W := kv_t5 (i := 151) (by decide +kernel) (by decide +kernel)
theorem kw5_152 : (Jvm.Cond.code ({ cls := "KeptVolunteersModel", name := "tryOf", desc := "(I)I" } : Jvm.MethodName) prog_13_method_61_code (9 : Nat) (Option.some Jvm.ClassFile.FieldType.int)) ∈ kv_W := kv_t5 (i := 152) (by decide +kernel) (by decide +kernel)
theorem kw5_153 : (Jvm.Cond.methodLink "KeptVolunteersLaw" (47 : Nat) ({ cls := "KeptVolunteersModel", name := "cast", desc := "(II)I" } : Jvm.MethodName)) ∈ kv_W := kv_t5 (i := 153) (by decide +kernel) (by decide +kernel)
theorem kw5_154 : (Jvm.Cond.instanceMethod ({ cls := "KeptVolunteersModel", name := "cast", desc := "(II)I" } : Jvm.MethodName)) ∈ kv_W := kv_t5 (i := 154) (by decide +kernel) (by decide +kernel)
theorem kw5_155 : (Jvm.Cond.selects "KeptVolunteersModel" ({ cls := "KeptVolunteersModel", name := "cast", desc := "(II)I" } : Jvm.MethodName) ({ cls := "KeptVolunteersModel", name := "cast", desc := "(II)I" } : Jvm.MethodName)) ∈ kv_W := kv_t5 (i := 155) (by decide +kernel) (by decide +kernel)
theorem kw5_156 : (Jvm.Cond.code ({ cls := "KeptVolunteersModel", name := "cast", desc := "(II)I" } : Jvm.MethodName) prog_13_method_34_code (4 : Nat) (Option.some Jvm.ClassFile.FieldType.int)) ∈ kv_W := kv_t5 (i := 156) (by decide +kernel) (by decide +kernel)
theorem kw5_157 : (Jvm.Cond.methodLink "KeptVolunteersLaw" (51 : Nat) ({ cls := "KeptVolunteersModel", name := "drop", desc := "(II)I" } : Jvm.MethodName)) ∈ kv_W := kv_t5 (i := 157) (by decide +kernel) (by decide +kernel)
theorem kw5_158 : (Jvm.Cond.instanceMethod ({ cls := "KeptVolunteersModel", name := "drop", desc := "(II)I" } : Jvm.MethodName)) ∈ kv_W := kv_t5 (i := 158) (by decide +kernel) (by decide +kernel)
theorem kw5_159 : (Jvm.Cond.selects "KeptVolunteersModel" ({ cls := "KeptVolunteersModel", name := "drop", desc := "(II)I" } : Jvm.MethodName) ({ cls := "KeptVolunteersModel", name := "drop", desc := "(II)I" } : Jvm.MethodName)) ∈ kv_W := kv_t5 (i := 159) (by decide +kernel) (by decide +kernel)
theorem kw5_160 : (Jvm.Cond.code ({ cls := "KeptVolunteersModel", name := "drop", desc := "(II)I" } : Jvm.MethodName) prog_13_method_35_code (3 : Nat) (Option.some Jvm.ClassFile.FieldType.int)) ∈ kv_W := kv_t5 (i := 160) (by decide +kernel) (by decide +kernel)
theorem kw5_161 : (Jvm.Cond.methodLink "KeptVolunteersLaw" (55 : Nat) ({ cls := "KeptVolunteersModel", name := "clear", desc := "()I" } : Jvm.MethodName)) ∈ kv_W := kv_t5 (i := 161) (by decide +kernel) (by decide +kernel)
theorem kw5_162 : (Jvm.Cond.instanceMethod ({ cls := "KeptVolunteersModel", name := "clear", desc := "()I" } : Jvm.MethodName)) ∈ kv_W := kv_t5 (i := 162) (by decide +kernel) (by decide +kernel)
theorem kw5_163 : (Jvm.Cond.selects "KeptVolunteersModel" ({ cls := "KeptVolunteersModel", name := "clear", desc := "()I" } : Jvm.MethodName) ({ cls := "KeptVolunteersModel", name := "clear", desc := "()I" } : Jvm.MethodName)) ∈ kv_W := kv_t5 (i := 163) (by decide +kernel) (by decide +kernel)
theorem kw5_164 : (Jvm.Cond.code ({ cls := "KeptVolunteersModel", name := "clear", desc := "()I" } : Jvm.MethodName) prog_13_method_36_code (3 : Nat) (Option.some Jvm.ClassFile.FieldType.int)) ∈ kv_W := kv_t5 (i := 164) (by decide +kernel) (by decide +kernel)
theorem kw5_165 : (Jvm.Cond.methodLink "KeptVolunteersLaw" (63 : Nat) ({ cls := "KeptVolunteersModel", name := "night", desc := "()I" } : Jvm.MethodName)) ∈ kv_W := kv_t5 (i := 165) (by decide +kernel) (by decide +kernel)
theorem kw5_166 : (Jvm.Cond.instanceMethod ({ cls := "KeptVolunteersModel", name := "night", desc := "()I" } : Jvm.MethodName)) ∈ kv_W := kv_t5 (i := 166) (by decide +kernel) (by decide +kernel)
theorem kw5_167 : (Jvm.Cond.selects "KeptVolunteersModel" ({ cls := "KeptVolunteersModel", name := "night", desc := "()I" } : Jvm.MethodName) ({ cls := "KeptVolunteersModel", name := "night", desc := "()I" } : Jvm.MethodName)) ∈ kv_W := kv_t5 (i := 167) (by decide +kernel) (by decide +kernel)
theorem kw5_168 : (Jvm.Cond.code ({ cls := "KeptVolunteersModel", name := "night", desc := "()I" } : Jvm.MethodName) prog_13_method_38_code (3 : Nat) (Option.some Jvm.ClassFile.FieldType.int)) ∈ kv_W := kv_t5 (i := 168) (by decide +kernel) (by decide +kernel)
theorem kw5_169 : (Jvm.Cond.methodLink "KeptVolunteersModel" (192 : Nat) ({ cls := "KeptVolunteersModel", name := "lacks", desc := "()Z" } : Jvm.MethodName)) ∈ kv_W := kv_t5 (i := 169) (by decide +kernel) (by decide +kernel)
theorem kw5_171 : (Jvm.Cond.instanceMethod ({ cls := "KeptVolunteersModel", name := "lacks", desc := "()Z" } : Jvm.MethodName)) ∈ kv_W := kv_t5 (i := 171) (by decide +kernel) (by decide +kernel)
theorem kw5_172 : (Jvm.Cond.code ({ cls := "KeptVolunteersModel", name := "lacks", desc := "()Z" } : Jvm.MethodName) prog_13_method_13_code (1 : Nat) (Option.some Jvm.ClassFile.FieldType.boolean)) ∈ kv_W := kv_t5 (i := 172) (by decide +kernel) (by decide +kernel)
theorem kw5_173 : (Jvm.Cond.methodLink "KeptVolunteersModel" (196 : Nat) ({ cls := "KeptVolunteersModel", name := "doneNow", desc := "()I" } : Jvm.MethodName)) ∈ kv_W := kv_t5 (i := 173) (by decide +kernel) (by decide +kernel)
theorem kw5_175 : (Jvm.Cond.instanceMethod ({ cls := "KeptVolunteersModel", name := "doneNow", desc := "()I" } : Jvm.MethodName)) ∈ kv_W := kv_t5 (i := 175) (by decide +kernel) (by decide +kernel)
theorem kw5_176 : (Jvm.Cond.code ({ cls := "KeptVolunteersModel", name := "doneNow", desc := "()I" } : Jvm.MethodName) prog_13_method_37_code (3 : Nat) (Option.some Jvm.ClassFile.FieldType.int)) ∈ kv_W := kv_t5 (i := 176) (by decide +kernel) (by decide +kernel)
theorem kw5_177 : (Jvm.Cond.methodLink "KeptVolunteersLaw" (68 : Nat) ({ cls := "KeptVolunteersModel", name := "move", desc := "(Z)I" } : Jvm.MethodName)) ∈ kv_W := kv_t5 (i := 177) (by decide +kernel) (by decide +kernel)
theorem kw5_178 : (Jvm.Cond.instanceMethod ({ cls := "KeptVolunteersModel", name := "move", desc := "(Z)I" } : Jvm.MethodName)) ∈ kv_W := kv_t5 (i := 178) (by decide +kernel) (by decide +kernel)
theorem kw5_179 : (Jvm.Cond.selects "KeptVolunteersModel" ({ cls := "KeptVolunteersModel", name := "move", desc := "(Z)I" } : Jvm.MethodName) ({ cls := "KeptVolunteersModel", name := "move", desc := "(Z)I" } : Jvm.MethodName)) ∈ kv_W := kv_t5 (i := 179) (by decide +kernel) (by decide +kernel)
theorem kw5_180 : (Jvm.Cond.code ({ cls := "KeptVolunteersModel", name := "move", desc := "(Z)I" } : Jvm.MethodName) prog_13_method_39_code (2 : Nat) (Option.some Jvm.ClassFile.FieldType.int)) ∈ kv_W := kv_t5 (i := 180) (by decide +kernel) (by decide +kernel)
theorem kw5_181 : (Jvm.Cond.methodLink "KeptVolunteersLaw" (72 : Nat) ({ cls := "KeptVolunteersModel", name := "letGo", desc := "(I)I" } : Jvm.MethodName)) ∈ kv_W := kv_t5 (i := 181) (by decide +kernel) (by decide +kernel)
theorem kw5_182 : (Jvm.Cond.instanceMethod ({ cls := "KeptVolunteersModel", name := "letGo", desc := "(I)I" } : Jvm.MethodName)) ∈ kv_W := kv_t5 (i := 182) (by decide +kernel) (by decide +kernel)
theorem kw5_183 : (Jvm.Cond.selects "KeptVolunteersModel" ({ cls := "KeptVolunteersModel", name := "letGo", desc := "(I)I" } : Jvm.MethodName) ({ cls := "KeptVolunteersModel", name := "letGo", desc := "(I)I" } : Jvm.MethodName)) ∈ kv_W := kv_t5 (i := 183) (by decide +kernel) (by decide +kernel)
theorem kw5_184 : (Jvm.Cond.code ({ cls := "KeptVolunteersModel", name := "letGo", desc := "(I)I" } : Jvm.MethodName) prog_13_method_40_code (3 : Nat) (Option.some Jvm.ClassFile.FieldType.int)) ∈ kv_W := kv_t5 (i := 184) (by decide +kernel) (by decide +kernel)
theorem kw5_185 : (Jvm.Cond.methodLink "KeptVolunteersModel" (199 : Nat) ({ cls := "KeptVolunteersModel", name := "keptSet", desc := "()I" } : Jvm.MethodName)) ∈ kv_W := kv_t5 (i := 185) (by decide +kernel) (by decide +kernel)
theorem kw5_187 : (Jvm.Cond.instanceMethod ({ cls := "KeptVolunteersModel", name := "keptSet", desc := "()I" } : Jvm.MethodName)) ∈ kv_W := kv_t5 (i := 187) (by decide +kernel) (by decide +kernel)
theorem kw5_188 : (Jvm.Cond.code ({ cls := "KeptVolunteersModel", name := "keptSet", desc := "()I" } : Jvm.MethodName) prog_13_method_17_code (3 : Nat) (Option.some Jvm.ClassFile.FieldType.int)) ∈ kv_W := kv_t5 (i := 188) (by decide +kernel) (by decide +kernel)
theorem kw5_189 : (Jvm.Cond.methodLink "KeptVolunteersLaw" (76 : Nat) ({ cls := "KeptVolunteersModel", name := "call", desc := "(II)I" } : Jvm.MethodName)) ∈ kv_W := kv_t5 (i := 189) (by decide +kernel) (by decide +kernel)
theorem kw5_190 : (Jvm.Cond.instanceMethod ({ cls := "KeptVolunteersModel", name := "call", desc := "(II)I" } : Jvm.MethodName)) ∈ kv_W := kv_t5 (i := 190) (by decide +kernel) (by decide +kernel)
theorem kw5_191 : (Jvm.Cond.selects "KeptVolunteersModel" ({ cls := "KeptVolunteersModel", name := "call", desc := "(II)I" } : Jvm.MethodName) ({ cls := "KeptVolunteersModel", name := "call", desc := "(II)I" } : Jvm.MethodName)) ∈ kv_W := kv_t5 (i := 191) (by decide +kernel) (by decide +kernel)
theorem kw5_192 : (Jvm.Cond.code ({ cls := "KeptVolunteersModel", name := "call", desc := "(II)I" } : Jvm.MethodName) prog_13_method_41_code (3 : Nat) (Option.some Jvm.ClassFile.FieldType.int)) ∈ kv_W := kv_t5 (i := 192) (by decide +kernel) (by decide +kernel)
theorem kw5_193 : (Jvm.Cond.constantLong "KeptVolunteersModel" (202 : Nat) (9 : Int64)) ∈ kv_W := kv_t5 (i := 193) (by decide +kernel) (by decide +kernel)
theorem kw5_194 : (Jvm.Cond.methodLink "KeptVolunteersLaw" (80 : Nat) ({ cls := "KeptVolunteersModel", name := "most", desc := "(I)I" } : Jvm.MethodName)) ∈ kv_W := kv_t5 (i := 194) (by decide +kernel) (by decide +kernel)
theorem kw5_195 : (Jvm.Cond.instanceMethod ({ cls := "KeptVolunteersModel", name := "most", desc := "(I)I" } : Jvm.MethodName)) ∈ kv_W := kv_t5 (i := 195) (by decide +kernel) (by decide +kernel)
theorem kw5_196 : (Jvm.Cond.selects "KeptVolunteersModel" ({ cls := "KeptVolunteersModel", name := "most", desc := "(I)I" } : Jvm.MethodName) ({ cls := "KeptVolunteersModel", name := "most", desc := "(I)I" } : Jvm.MethodName)) ∈ kv_W := kv_t5 (i := 196) (by decide +kernel) (by decide +kernel)
theorem kw5_197 : (Jvm.Cond.code ({ cls := "KeptVolunteersModel", name := "most", desc := "(I)I" } : Jvm.MethodName) prog_13_method_46_code (2 : Nat) (Option.some Jvm.ClassFile.FieldType.int)) ∈ kv_W := kv_t5 (i := 197) (by decide +kernel) (by decide +kernel)
theorem kw5_198 : (Jvm.Cond.constantLong "KeptVolunteersModel" (218 : Nat) (10 : Int64)) ∈ kv_W := kv_t5 (i := 198) (by decide +kernel) (by decide +kernel)
theorem kw5_199 : (Jvm.Cond.constantLong "KeptVolunteersModel" (220 : Nat) (14 : Int64)) ∈ kv_W := kv_t5 (i := 199) (by decide +kernel) (by decide +kernel)
theorem kw5_200 : (Jvm.Cond.methodLink "KeptVolunteersModel" (225 : Nat) ({ cls := "KeptVolunteersModel", name := "mostOf", desc := "(I)I" } : Jvm.MethodName)) ∈ kv_W := kv_t5 (i := 200) (by decide +kernel) (by decide +kernel)
theorem kw5_202 : (Jvm.Cond.instanceMethod ({ cls := "KeptVolunteersModel", name := "mostOf", desc := "(I)I" } : Jvm.MethodName)) ∈ kv_W := kv_t5 (i := 202) (by decide +kernel) (by decide +kernel)
theorem kw5_203 : (Jvm.Cond.code ({ cls := "KeptVolunteersModel", name := "mostOf", desc := "(I)I" } : Jvm.MethodName) prog_13_method_45_code (3 : Nat) (Option.some Jvm.ClassFile.FieldType.int)) ∈ kv_W := kv_t5 (i := 203) (by decide +kernel) (by decide +kernel)
theorem kw5_204 : (Jvm.Cond.methodLink "KeptVolunteersModel" (215 : Nat) ({ cls := "KeptVolunteersModel", name := "layMost", desc := "(I)I" } : Jvm.MethodName)) ∈ kv_W := kv_t5 (i := 204) (by decide +kernel) (by decide +kernel)
theorem kw5_206 : (Jvm.Cond.instanceMethod ({ cls := "KeptVolunteersModel", name := "layMost", desc := "(I)I" } : Jvm.MethodName)) ∈ kv_W := kv_t5 (i := 206) (by decide +kernel) (by decide +kernel)
theorem kw5_207 : (Jvm.Cond.code ({ cls := "KeptVolunteersModel", name := "layMost", desc := "(I)I" } : Jvm.MethodName) prog_13_method_44_code (6 : Nat) (Option.some Jvm.ClassFile.FieldType.int)) ∈ kv_W := kv_t5 (i := 207) (by decide +kernel) (by decide +kernel)
theorem kw5_208 : (Jvm.Cond.methodLink "KeptVolunteersModel" (204 : Nat) ({ cls := "KeptVolunteersModel", name := "layChoices", desc := "(I)V" } : Jvm.MethodName)) ∈ kv_W := kv_t5 (i := 208) (by decide +kernel) (by decide +kernel)
theorem kw5_210 : (Jvm.Cond.instanceMethod ({ cls := "KeptVolunteersModel", name := "layChoices", desc := "(I)V" } : Jvm.MethodName)) ∈ kv_W := kv_t5 (i := 210) (by decide +kernel) (by decide +kernel)
theorem kw5_211 : (Jvm.Cond.code ({ cls := "KeptVolunteersModel", name := "layChoices", desc := "(I)V" } : Jvm.MethodName) prog_13_method_42_code (4 : Nat) (Option.none : Option Jvm.ClassFile.FieldType)) ∈ kv_W := kv_t5 (i := 211) (by decide +kernel) (by decide +kernel)
theorem kw5_212 : (Jvm.Cond.methodLink "KeptVolunteersModel" (208 : Nat) ({ cls := "KeptVolunteersModel", name := "copy", desc := "([I[I)V" } : Jvm.MethodName)) ∈ kv_W := kv_t5 (i := 212) (by decide +kernel) (by decide +kernel)
theorem kw5_213 : (Jvm.Cond.static ({ cls := "KeptVolunteersModel", name := "copy", desc := "([I[I)V" } : Jvm.MethodName)) ∈ kv_W := kv_t5 (i := 213) (by decide +kernel) (by decide +kernel)
theorem kw5_214 : (Jvm.Cond.code ({ cls := "KeptVolunteersModel", name := "copy", desc := "([I[I)V" } : Jvm.MethodName) prog_13_method_3_code (3 : Nat) (Option.none : Option Jvm.ClassFile.FieldType)) ∈ kv_W := kv_t5 (i := 214) (by decide +kernel) (by decide +kernel)
theorem kw5_215 : (Jvm.Cond.methodLink "KeptVolunteersModel" (212 : Nat) ({ cls := "KeptVolunteersModel", name := "isFree", desc := "(II)Z" } : Jvm.MethodName)) ∈ kv_W := kv_t5 (i := 215) (by decide +kernel) (by decide +kernel)
theorem kw5_217 : (Jvm.Cond.instanceMethod ({ cls := "KeptVolunteersModel", name := "isFree", desc := "(II)Z" } : Jvm.MethodName)) ∈ kv_W := kv_t5 (i := 217) (by decide +kernel) (by decide +kernel)
theorem kw5_218 : (Jvm.Cond.code ({ cls := "KeptVolunteersModel", name := "isFree", desc := "(II)Z" } : Jvm.MethodName) prog_13_method_43_code (5 : Nat) (Option.some Jvm.ClassFile.FieldType.boolean)) ∈ kv_W := kv_t5 (i := 218) (by decide +kernel) (by decide +kernel)
theorem kw5_219 : (Jvm.Cond.methodLink "KeptVolunteersLaw" (59 : Nat) ({ cls := "KeptVolunteersModel", name := "fill", desc := "()I" } : Jvm.MethodName)) ∈ kv_W := kv_t5 (i := 219) (by decide +kernel) (by decide +kernel)
theorem kw5_220 : (Jvm.Cond.instanceMethod ({ cls := "KeptVolunteersModel", name := "fill", desc := "()I" } : Jvm.MethodName)) ∈ kv_W := kv_t5 (i := 220) (by decide +kernel) (by decide +kernel)
theorem kw5_221 : (Jvm.Cond.selects "KeptVolunteersModel" ({ cls := "KeptVolunteersModel", name := "fill", desc := "()I" } : Jvm.MethodName) ({ cls := "KeptVolunteersModel", name := "fill", desc := "()I" } : Jvm.MethodName)) ∈ kv_W := kv_t5 (i := 221) (by decide +kernel) (by decide +kernel)
theorem kw5_222 : (Jvm.Cond.code ({ cls := "KeptVolunteersModel", name := "fill", desc := "()I" } : Jvm.MethodName) prog_13_method_47_code (2 : Nat) (Option.some Jvm.ClassFile.FieldType.int)) ∈ kv_W := kv_t5 (i := 222) (by decide +kernel) (by decide +kernel)
theorem kw5_223 : (Jvm.Cond.methodLink "KeptVolunteersLaw" (84 : Nat) ({ cls := "KeptVolunteersModel", name := "fewest", desc := "(I)I" } : Jvm.MethodName)) ∈ kv_W := kv_t5 (i := 223) (by decide +kernel) (by decide +kernel)
theorem kw5_224 : (Jvm.Cond.instanceMethod ({ cls := "KeptVolunteersModel", name := "fewest", desc := "(I)I" } : Jvm.MethodName)) ∈ kv_W := kv_t5 (i := 224) (by decide +kernel) (by decide +kernel)
theorem kw5_225 : (Jvm.Cond.selects "KeptVolunteersModel" ({ cls := "KeptVolunteersModel", name := "fewest", desc := "(I)I" } : Jvm.MethodName) ({ cls := "KeptVolunteersModel", name := "fewest", desc := "(I)I" } : Jvm.MethodName)) ∈ kv_W := kv_t5 (i := 225) (by decide +kernel) (by decide +kernel)
theorem kw5_226 : (Jvm.Cond.code ({ cls := "KeptVolunteersModel", name := "fewest", desc := "(I)I" } : Jvm.MethodName) prog_13_method_49_code (2 : Nat) (Option.some Jvm.ClassFile.FieldType.int)) ∈ kv_W := kv_t5 (i := 226) (by decide +kernel) (by decide +kernel)
theorem kw5_227 : (Jvm.Cond.methodLink "KeptVolunteersModel" (231 : Nat) ({ cls := "KeptVolunteersModel", name := "fewestOf", desc := "(I)I" } : Jvm.MethodName)) ∈ kv_W := kv_t5 (i := 227) (by decide +kernel) (by decide +kernel)
theorem kw5_229 : (Jvm.Cond.instanceMethod ({ cls := "KeptVolunteersModel", name := "fewestOf", desc := "(I)I" } : Jvm.MethodName)) ∈ kv_W := kv_t5 (i := 229) (by decide +kernel) (by decide +kernel)
theorem kw5_230 : (Jvm.Cond.code ({ cls := "KeptVolunteersModel", name := "fewestOf", desc := "(I)I" } : Jvm.MethodName) prog_13_method_48_code (6 : Nat) (Option.some Jvm.ClassFile.FieldType.int)) ∈ kv_W := kv_t5 (i := 230) (by decide +kernel) (by decide +kernel)
theorem kw5_231 : (Jvm.Cond.methodLink "KeptVolunteersLaw" (88 : Nat) ({ cls := "KeptVolunteersModel", name := "spare", desc := "()I" } : Jvm.MethodName)) ∈ kv_W := kv_t5 (i := 231) (by decide +kernel) (by decide +kernel)
theorem kw5_232 : (Jvm.Cond.instanceMethod ({ cls := "KeptVolunteersModel", name := "spare", desc := "()I" } : Jvm.MethodName)) ∈ kv_W := kv_t5 (i := 232) (by decide +kernel) (by decide +kernel)
theorem kw5_233 : (Jvm.Cond.selects "KeptVolunteersModel" ({ cls := "KeptVolunteersModel", name := "spare", desc := "()I" } : Jvm.MethodName) ({ cls := "KeptVolunteersModel", name := "spare", desc := "()I" } : Jvm.MethodName)) ∈ kv_W := kv_t5 (i := 233) (by decide +kernel) (by decide +kernel)
theorem kw5_234 : (Jvm.Cond.code ({ cls := "KeptVolunteersModel", name := "spare", desc := "()I" } : Jvm.MethodName) prog_13_method_51_code (1 : Nat) (Option.some Jvm.ClassFile.FieldType.int)) ∈ kv_W := kv_t5 (i := 234) (by decide +kernel) (by decide +kernel)
theorem kw5_235 : (Jvm.Cond.methodLink "KeptVolunteersModel" (237 : Nat) ({ cls := "KeptVolunteersModel", name := "spareOf", desc := "()I" } : Jvm.MethodName)) ∈ kv_W := kv_t5 (i := 235) (by decide +kernel) (by decide +kernel)
theorem kw5_237 : (Jvm.Cond.instanceMethod ({ cls := "KeptVolunteersModel", name := "spareOf", desc := "()I" } : Jvm.MethodName)) ∈ kv_W := kv_t5 (i := 237) (by decide +kernel) (by decide +kernel)
theorem kw5_238 : (Jvm.Cond.code ({ cls := "KeptVolunteersModel", name := "spareOf", desc := "()I" } : Jvm.MethodName) prog_13_method_50_code (6 : Nat) (Option.some Jvm.ClassFile.FieldType.int)) ∈ kv_W := kv_t5 (i := 238) (by decide +kernel) (by decide +kernel)
theorem kw5_239 : (Jvm.Cond.methodLink "KeptVolunteersLaw" (92 : Nat) ({ cls := "KeptVolunteersModel", name := "wants", desc := "(I)I" } : Jvm.MethodName)) ∈ kv_W := kv_t5 (i := 239) (by decide +kernel) (by decide +kernel)
theorem kw6_0 : (Jvm.Cond.instanceMethod ({ cls := "KeptVolunteersModel", name := "wants", desc := "(I)I" } : Jvm.MethodName)) ∈ kv_W := kv_t6 (i := 0) (by decide +kernel) (by decide +kernel)
theorem kw6_1 : (Jvm.Cond.selects "KeptVolunteersModel" ({ cls := "KeptVolunteersModel", name := "wants", desc := "(I)I" } : Jvm.MethodName) ({ cls := "KeptVolunteersModel", name := "wants", desc := "(I)I" } : Jvm.MethodName)) ∈ kv_W := kv_t6 (i := 1) (by decide +kernel) (by decide +kernel)
theorem kw6_2 : (Jvm.Cond.code ({ cls := "KeptVolunteersModel", name := "wants", desc := "(I)I" } : Jvm.MethodName) prog_13_method_53_code (2 : Nat) (Option.some Jvm.ClassFile.FieldType.int)) ∈ kv_W := kv_t6 (i := 2) (by decide +kernel) (by decide +kernel)
theorem kw6_3 : (Jvm.Cond.constantLong "KeptVolunteersModel" (240 : Nat) (11 : Int64)) ∈ kv_W := kv_t6 (i := 3) (by decide +kernel) (by decide +kernel)
theorem kw6_4 : (Jvm.Cond.methodLink "KeptVolunteersModel" (242 : Nat) ({ cls := "KeptVolunteersModel", name := "wantsAt", desc := "(I)I" } : Jvm.MethodName)) ∈ kv_W := kv_t6 (i := 4) (by decide +kernel) (by decide +kernel)
theorem kw6_6 : (Jvm.Cond.instanceMethod ({ cls := "KeptVolunteersModel", name := "wantsAt", desc := "(I)I" } : Jvm.MethodName)) ∈ kv_W := kv_t6 (i := 6) (by decide +kernel) (by decide +kernel)
theorem kw6_7 : (Jvm.Cond.code ({ cls := "KeptVolunteersModel", name := "wantsAt", desc := "(I)I" } : Jvm.MethodName) prog_13_method_52_code (4 : Nat) (Option.some Jvm.ClassFile.FieldType.int)) ∈ kv_W := kv_t6 (i := 7) (by decide +kernel) (by decide +kernel)
theorem kw6_8 : (Jvm.Cond.methodLink "KeptVolunteersLaw" (96 : Nat) ({ cls := "KeptVolunteersModel", name := "route", desc := "(II)I" } : Jvm.MethodName)) ∈ kv_W := kv_t6 (i := 8) (by decide +kernel) (by decide +kernel)
theorem kw6_9 : (Jvm.Cond.instanceMethod ({ cls := "KeptVolunteersModel", name := "route", desc := "(II)I" } : Jvm.MethodName)) ∈ kv_W := kv_t6 (i := 9) (by decide +kernel) (by decide +kernel)
theorem kw6_10 : (Jvm.Cond.selects "KeptVolunteersModel" ({ cls := "KeptVolunteersModel", name := "route", desc := "(II)I" } : Jvm.MethodName) ({ cls := "KeptVolunteersModel", name := "route", desc := "(II)I" } : Jvm.MethodName)) ∈ kv_W := kv_t6 (i := 10) (by decide +kernel) (by decide +kernel)
theorem kw6_11 : (Jvm.Cond.code ({ cls := "KeptVolunteersModel", name := "route", desc := "(II)I" } : Jvm.MethodName) prog_13_method_57_code (3 : Nat) (Option.some Jvm.ClassFile.FieldType.int)) ∈ kv_W := kv_t6 (i := 11) (by decide +kernel) (by decide +kernel)
theorem kw6_12 : (Jvm.Cond.methodLink "KeptVolunteersModel" (249 : Nat) ({ cls := "KeptVolunteersModel", name := "routeOf", desc := "(II)I" } : Jvm.MethodName)) ∈ kv_W := kv_t6 (i := 12) (by decide +kernel) (by decide +kernel)
theorem kw6_14 : (Jvm.Cond.instanceMethod ({ cls := "KeptVolunteersModel", name := "routeOf", desc := "(II)I" } : Jvm.MethodName)) ∈ kv_W := kv_t6 (i := 14) (by decide +kernel) (by decide +kernel)
theorem kw6_15 : (Jvm.Cond.code ({ cls := "KeptVolunteersModel", name := "routeOf", desc := "(II)I" } : Jvm.MethodName) prog_13_method_56_code (11 : Nat) (Option.some Jvm.ClassFile.FieldType.int)) ∈ kv_W := kv_t6 (i := 15) (by decide +kernel) (by decide +kernel)
theorem kw6_16 : (Jvm.Cond.methodLink "KeptVolunteersModel" (245 : Nat) ({ cls := "KeptVolunteersModel", name := "isThrough", desc := "(III)Z" } : Jvm.MethodName)) ∈ kv_W := kv_t6 (i := 16) (by decide +kernel) (by decide +kernel)
theorem kw6_17 : (Jvm.Cond.static ({ cls := "KeptVolunteersModel", name := "isThrough", desc := "(III)Z" } : Jvm.MethodName)) ∈ kv_W := kv_t6 (i := 17) (by decide +kernel) (by decide +kernel)
theorem kw6_18 : (Jvm.Cond.code ({ cls := "KeptVolunteersModel", name := "isThrough", desc := "(III)Z" } : Jvm.MethodName) prog_13_method_55_code (5 : Nat) (Option.some Jvm.ClassFile.FieldType.boolean)) ∈ kv_W := kv_t6 (i := 18) (by decide +kernel) (by decide +kernel)
theorem kw6_19 : (Jvm.Cond.methodLink "KeptVolunteersLaw" (101 : Nat) ({ cls := "KeptVolunteersModel", name := "see", desc := "(IIZ)I" } : Jvm.MethodName)) ∈ kv_W := kv_t6 (i := 19) (by decide +kernel) (by decide +kernel)
theorem kw6_20 : (Jvm.Cond.instanceMethod ({ cls := "KeptVolunteersModel", name := "see", desc := "(IIZ)I" } : Jvm.MethodName)) ∈ kv_W := kv_t6 (i := 20) (by decide +kernel) (by decide +kernel)
theorem kw6_21 : (Jvm.Cond.selects "KeptVolunteersModel" ({ cls := "KeptVolunteersModel", name := "see", desc := "(IIZ)I" } : Jvm.MethodName) ({ cls := "KeptVolunteersModel", name := "see", desc := "(IIZ)I" } : Jvm.MethodName)) ∈ kv_W := kv_t6 (i := 21) (by decide +kernel) (by decide +kernel)
theorem kw6_22 : (Jvm.Cond.code ({ cls := "KeptVolunteersModel", name := "see", desc := "(IIZ)I" } : Jvm.MethodName) prog_13_method_58_code (4 : Nat) (Option.some Jvm.ClassFile.FieldType.int)) ∈ kv_W := kv_t6 (i := 22) (by decide +kernel) (by decide +kernel)
theorem kw6_23 : (Jvm.Cond.methodLink "KeptVolunteersLaw" (105 : Nat) ({ cls := "KeptVolunteersModel", name := "forget", desc := "()I" } : Jvm.MethodName)) ∈ kv_W := kv_t6 (i := 23) (by decide +kernel) (by decide +kernel)
theorem kw6_24 : (Jvm.Cond.instanceMethod ({ cls := "KeptVolunteersModel", name := "forget", desc := "()I" } : Jvm.MethodName)) ∈ kv_W := kv_t6 (i := 24) (by decide +kernel) (by decide +kernel)
theorem kw6_25 : (Jvm.Cond.selects "KeptVolunteersModel" ({ cls := "KeptVolunteersModel", name := "forget", desc := "()I" } : Jvm.MethodName) ({ cls := "KeptVolunteersModel", name := "forget", desc := "()I" } : Jvm.MethodName)) ∈ kv_W := kv_t6 (i := 25) (by decide +kernel) (by decide +kernel)
theorem kw6_26 : (Jvm.Cond.code ({ cls := "KeptVolunteersModel", name := "forget", desc := "()I" } : Jvm.MethodName) prog_13_method_59_code (2 : Nat) (Option.some Jvm.ClassFile.FieldType.int)) ∈ kv_W := kv_t6 (i := 26) (by decide +kernel) (by decide +kernel)
theorem kw6_27 : (Jvm.Cond.methodLink "KeptVolunteersLaw" (110 : Nat) ({ cls := "KeptVolunteersModel", name := "tours", desc := "(III)I" } : Jvm.MethodName)) ∈ kv_W := kv_t6 (i := 27) (by decide +kernel) (by decide +kernel)
theorem kw6_28 : (Jvm.Cond.instanceMethod ({ cls := "KeptVolunteersModel", name := "tours", desc := "(III)I" } : Jvm.MethodName)) ∈ kv_W := kv_t6 (i := 28) (by decide +kernel) (by decide +kernel)
theorem kw6_29 : (Jvm.Cond.selects "KeptVolunteersModel" ({ cls := "KeptVolunteersModel", name := "tours", desc := "(III)I" } : Jvm.MethodName) ({ cls := "KeptVolunteersModel", name := "tours", desc := "(III)I" } : Jvm.MethodName)) ∈ kv_W := kv_t6 (i := 29) (by decide +kernel) (by decide +kernel)
theorem kw6_30 : (Jvm.Cond.code ({ cls := "KeptVolunteersModel", name := "tours", desc := "(III)I" } : Jvm.MethodName) prog_13_method_65_code (9 : Nat) (Option.some Jvm.ClassFile.FieldType.int)) ∈ kv_W := kv_t6 (i := 30) (by decide +kernel) (by decide +kernel)
theorem kw6_31 : (Jvm.Cond.constantLong "KeptVolunteersModel" (265 : Nat) (40 : Int64)) ∈ kv_W := kv_t6 (i := 31) (by decide +kernel) (by decide +kernel)
theorem kw6_32 : (Jvm.Cond.constantLong "KeptVolunteersModel" (267 : Nat) (2 : Int64)) ∈ kv_W := kv_t6 (i := 32) (by decide +kernel) (by decide +kernel)
theorem kw6_33 : (Jvm.Cond.methodLink "KeptVolunteersModel" (269 : Nat) ({ cls := "KeptVolunteersModel", name := "draw", desc := "(I)I" } : Jvm.MethodName)) ∈ kv_W := kv_t6 (i := 33) (by decide +kernel) (by decide +kernel)
theorem kw6_35 : (Jvm.Cond.instanceMethod ({ cls := "KeptVolunteersModel", name := "draw", desc := "(I)I" } : Jvm.MethodName)) ∈ kv_W := kv_t6 (i := 35) (by decide +kernel) (by decide +kernel)
theorem kw6_36 : (Jvm.Cond.code ({ cls := "KeptVolunteersModel", name := "draw", desc := "(I)I" } : Jvm.MethodName) prog_13_method_62_code (2 : Nat) (Option.some Jvm.ClassFile.FieldType.int)) ∈ kv_W := kv_t6 (i := 36) (by decide +kernel) (by decide +kernel)
theorem kw6_37 : (Jvm.Cond.constantLong "KeptVolunteersModel" (252 : Nat) (1103515245 : Int64)) ∈ kv_W := kv_t6 (i := 37) (by decide +kernel) (by decide +kernel)
theorem kw6_38 : (Jvm.Cond.constantLong "KeptVolunteersModel" (257 : Nat) (12345 : Int64)) ∈ kv_W := kv_t6 (i := 38) (by decide +kernel) (by decide +kernel)
theorem kw6_39 : (Jvm.Cond.constantLong "KeptVolunteersModel" (259 : Nat) (2147483647 : Int64)) ∈ kv_W := kv_t6 (i := 39) (by decide +kernel) (by decide +kernel)
theorem kw6_40 : (Jvm.Cond.constant "KeptVolunteersModel" (261 : Nat) (65536 : Int32)) ∈ kv_W := kv_t6 (i := 40) (by decide +kernel) (by decide +kernel)
theorem kw6_41 : (Jvm.Cond.methodLink "KeptVolunteersModel" (272 : Nat) ({ cls := "KeptVolunteersModel", name := "takesLine", desc := "(I)Z" } : Jvm.MethodName)) ∈ kv_W := kv_t6 (i := 41) (by decide +kernel) (by decide +kernel)
theorem kw6_43 : (Jvm.Cond.instanceMethod ({ cls := "KeptVolunteersModel", name := "takesLine", desc := "(I)Z" } : Jvm.MethodName)) ∈ kv_W := kv_t6 (i := 43) (by decide +kernel) (by decide +kernel)
theorem kw6_44 : (Jvm.Cond.code ({ cls := "KeptVolunteersModel", name := "takesLine", desc := "(I)Z" } : Jvm.MethodName) prog_13_method_63_code (6 : Nat) (Option.some Jvm.ClassFile.FieldType.boolean)) ∈ kv_W := kv_t6 (i := 44) (by decide +kernel) (by decide +kernel)
theorem kw6_45 : (Jvm.Cond.methodLink "KeptVolunteersModel" (275 : Nat) ({ cls := "KeptVolunteersModel", name := "letLineGo", desc := "()I" } : Jvm.MethodName)) ∈ kv_W := kv_t6 (i := 45) (by decide +kernel) (by decide +kernel)
theorem kw6_47 : (Jvm.Cond.instanceMethod ({ cls := "KeptVolunteersModel", name := "letLineGo", desc := "()I" } : Jvm.MethodName)) ∈ kv_W := kv_t6 (i := 47) (by decide +kernel) (by decide +kernel)
theorem kw6_48 : (Jvm.Cond.code ({ cls := "KeptVolunteersModel", name := "letLineGo", desc := "()I" } : Jvm.MethodName) prog_13_method_64_code (3 : Nat) (Option.some Jvm.ClassFile.FieldType.int)) ∈ kv_W := kv_t6 (i := 48) (by decide +kernel) (by decide +kernel)
theorem kw6_49 : (Jvm.Cond.methodLink "KeptVolunteersLaw" (114 : Nat) ({ cls := "KeptVolunteersModel", name := "image", desc := "()I" } : Jvm.MethodName)) ∈ kv_W := kv_t6 (i := 49) (by decide +kernel) (by decide +kernel)
theorem kw6_50 : (Jvm.Cond.instanceMethod ({ cls := "KeptVolunteersModel", name := "image", desc := "()I" } : Jvm.MethodName)) ∈ kv_W := kv_t6 (i := 50) (by decide +kernel) (by decide +kernel)
theorem kw6_51 : (Jvm.Cond.selects "KeptVolunteersModel" ({ cls := "KeptVolunteersModel", name := "image", desc := "()I" } : Jvm.MethodName) ({ cls := "KeptVolunteersModel", name := "image", desc := "()I" } : Jvm.MethodName)) ∈ kv_W := kv_t6 (i := 51) (by decide +kernel) (by decide +kernel)
theorem kw6_52 : (Jvm.Cond.code ({ cls := "KeptVolunteersModel", name := "image", desc := "()I" } : Jvm.MethodName) prog_13_method_66_code (1 : Nat) (Option.some Jvm.ClassFile.FieldType.int)) ∈ kv_W := kv_t6 (i := 52) (by decide +kernel) (by decide +kernel)
theorem kw6_53 : (Jvm.Cond.methodLink "KeptVolunteersLaw" (118 : Nat) ({ cls := "KeptVolunteersModel", name := "restore", desc := "()I" } : Jvm.MethodName)) ∈ kv_W := kv_t6 (i := 53) (by decide +kernel) (by decide +kernel)
theorem kw6_54 : (Jvm.Cond.instanceMethod ({ cls := "KeptVolunteersModel", name := "restore", desc := "()I" } : Jvm.MethodName)) ∈ kv_W := kv_t6 (i := 54) (by decide +kernel) (by decide +kernel)
theorem kw6_55 : (Jvm.Cond.selects "KeptVolunteersModel" ({ cls := "KeptVolunteersModel", name := "restore", desc := "()I" } : Jvm.MethodName) ({ cls := "KeptVolunteersModel", name := "restore", desc := "()I" } : Jvm.MethodName)) ∈ kv_W := kv_t6 (i := 55) (by decide +kernel) (by decide +kernel)
theorem kw6_56 : (Jvm.Cond.code ({ cls := "KeptVolunteersModel", name := "restore", desc := "()I" } : Jvm.MethodName) prog_13_method_67_code (1 : Nat) (Option.some Jvm.ClassFile.FieldType.int)) ∈ kv_W := kv_t6 (i := 56) (by decide +kernel) (by decide +kernel)
theorem kw6_57 : (Jvm.Cond.methodLink "KeptVolunteersLaw" (122 : Nat) ({ cls := "KeptVolunteersModel", name := "count", desc := "(I)I" } : Jvm.MethodName)) ∈ kv_W := kv_t6 (i := 57) (by decide +kernel) (by decide +kernel)
theorem kw6_58 : (Jvm.Cond.instanceMethod ({ cls := "KeptVolunteersModel", name := "count", desc := "(I)I" } : Jvm.MethodName)) ∈ kv_W := kv_t6 (i := 58) (by decide +kernel) (by decide +kernel)
theorem kw6_59 : (Jvm.Cond.selects "KeptVolunteersModel" ({ cls := "KeptVolunteersModel", name := "count", desc := "(I)I" } : Jvm.MethodName) ({ cls := "KeptVolunteersModel", name := "count", desc := "(I)I" } : Jvm.MethodName)) ∈ kv_W := kv_t6 (i := 59) (by decide +kernel) (by decide +kernel)
theorem kw6_60 : (Jvm.Cond.code ({ cls := "KeptVolunteersModel", name := "count", desc := "(I)I" } : Jvm.MethodName) prog_13_method_70_code (2 : Nat) (Option.some Jvm.ClassFile.FieldType.int)) ∈ kv_W := kv_t6 (i := 60) (by decide +kernel) (by decide +kernel)
theorem kw6_61 : (Jvm.Cond.methodLink "KeptVolunteersModel" (305 : Nat) ({ cls := "KeptVolunteersModel", name := "countOf", desc := "(I)I" } : Jvm.MethodName)) ∈ kv_W := kv_t6 (i := 61) (by decide +kernel) (by decide +kernel)
theorem kw6_63 : (Jvm.Cond.instanceMethod ({ cls := "KeptVolunteersModel", name := "countOf", desc := "(I)I" } : Jvm.MethodName)) ∈ kv_W := kv_t6 (i := 63) (by decide +kernel) (by decide +kernel)
theorem kw6_64 : (Jvm.Cond.code ({ cls := "KeptVolunteersModel", name := "countOf", desc := "(I)I" } : Jvm.MethodName) prog_13_method_68_code (2 : Nat) (Option.some Jvm.ClassFile.FieldType.int)) ∈ kv_W := kv_t6 (i := 64) (by decide +kernel) (by decide +kernel)
theorem kw6_65 : (Jvm.Cond.methodLink "KeptVolunteersModel" (299 : Nat) ({ cls := "KeptVolunteersModel", name := "bound", desc := "()I" } : Jvm.MethodName)) ∈ kv_W := kv_t6 (i := 65) (by decide +kernel) (by decide +kernel)
theorem kw6_67 : (Jvm.Cond.instanceMethod ({ cls := "KeptVolunteersModel", name := "bound", desc := "()I" } : Jvm.MethodName)) ∈ kv_W := kv_t6 (i := 67) (by decide +kernel) (by decide +kernel)
theorem kw6_68 : (Jvm.Cond.code ({ cls := "KeptVolunteersModel", name := "bound", desc := "()I" } : Jvm.MethodName) prog_13_method_54_code (4 : Nat) (Option.some Jvm.ClassFile.FieldType.int)) ∈ kv_W := kv_t6 (i := 68) (by decide +kernel) (by decide +kernel)
theorem kw6_69 : (Jvm.Cond.methodLink "KeptVolunteersModel" (302 : Nat) ({ cls := "KeptVolunteersModel", name := "countMore", desc := "(I)I" } : Jvm.MethodName)) ∈ kv_W := kv_t6 (i := 69) (by decide +kernel) (by decide +kernel)
theorem kw6_71 : (Jvm.Cond.instanceMethod ({ cls := "KeptVolunteersModel", name := "countMore", desc := "(I)I" } : Jvm.MethodName)) ∈ kv_W := kv_t6 (i := 71) (by decide +kernel) (by decide +kernel)
theorem kw6_72 : (Jvm.Cond.code ({ cls := "KeptVolunteersModel", name := "countMore", desc := "(I)I" } : Jvm.MethodName) prog_13_method_69_code (2 : Nat) (Option.some Jvm.ClassFile.FieldType.int)) ∈ kv_W := kv_t6 (i := 72) (by decide +kernel) (by decide +kernel)
theorem kw6_73 : (Jvm.Cond.methodLink "KeptVolunteersLaw" (127 : Nat) ({ cls := "KeptVolunteersModel", name := "digest", desc := "()J" } : Jvm.MethodName)) ∈ kv_W := kv_t6 (i := 73) (by decide +kernel) (by decide +kernel)
theorem kw6_74 : (Jvm.Cond.instanceMethod ({ cls := "KeptVolunteersModel", name := "digest", desc := "()J" } : Jvm.MethodName)) ∈ kv_W := kv_t6 (i := 74) (by decide +kernel) (by decide +kernel)
theorem kw6_75 : (Jvm.Cond.selects "KeptVolunteersModel" ({ cls := "KeptVolunteersModel", name := "digest", desc := "()J" } : Jvm.MethodName) ({ cls := "KeptVolunteersModel", name := "digest", desc := "()J" } : Jvm.MethodName)) ∈ kv_W := kv_t6 (i := 75) (by decide +kernel) (by decide +kernel)
theorem kw6_76 : (Jvm.Cond.code ({ cls := "KeptVolunteersModel", name := "digest", desc := "()J" } : Jvm.MethodName) prog_13_method_72_code (3 : Nat) (Option.some Jvm.ClassFile.FieldType.long)) ∈ kv_W := kv_t6 (i := 76) (by decide +kernel) (by decide +kernel)
theorem kw6_77 : (Jvm.Cond.constantLong "KeptVolunteersModel" (314 : Nat) (1117 : Int64)) ∈ kv_W := kv_t6 (i := 77) (by decide +kernel) (by decide +kernel)
theorem kw6_78 : (Jvm.Cond.methodLink "KeptVolunteersModel" (316 : Nat) ({ cls := "KeptVolunteersModel", name := "say", desc := "(J)V" } : Jvm.MethodName)) ∈ kv_W := kv_t6 (i := 78) (by decide +kernel) (by decide +kernel)
theorem kw6_80 : (Jvm.Cond.instanceMethod ({ cls := "KeptVolunteersModel", name := "say", desc := "(J)V" } : Jvm.MethodName)) ∈ kv_W := kv_t6 (i := 80) (by decide +kernel) (by decide +kernel)
theorem kw6_81 : (Jvm.Cond.code ({ cls := "KeptVolunteersModel", name := "say", desc := "(J)V" } : Jvm.MethodName) prog_13_method_71_code (3 : Nat) (Option.none : Option Jvm.ClassFile.FieldType)) ∈ kv_W := kv_t6 (i := 81) (by decide +kernel) (by decide +kernel)
theorem kw6_82 : (Jvm.Cond.constantLong "KeptVolunteersModel" (308 : Nat) (31 : Int64)) ∈ kv_W := kv_t6 (i := 82) (by decide +kernel) (by decide +kernel)
theorem kw6_88 : (Jvm.Cond.fieldLink "java/lang/String" (15 : Nat) "java/lang/String" "coder" "B") ∈ kv_W := kv_t6 (i := 88) (by decide +kernel) (by decide +kernel)
theorem kw6_89 : (Jvm.Cond.fieldLink "java/lang/String" (9 : Nat) "java/lang/String" "value" "[B") ∈ kv_W := kv_t6 (i := 89) (by decide +kernel) (by decide +kernel)
theorem kws_0 : Cond.selects "KeptVolunteers" ({ cls := "KeptVolunteers", name := "isTrick", desc := "(I)Z" } : Jvm.MethodName) ({ cls := "KeptVolunteers", name := "isTrick", desc := "(I)Z" } : Jvm.MethodName) ∈ kv_W := kv_s (i := 0) (by decide +kernel) (by decide +kernel)
theorem kws_1 : Cond.selects "KeptVolunteers" ({ cls := "KeptVolunteers", name := "isDoneNow", desc := "(I)Z" } : Jvm.MethodName) ({ cls := "KeptVolunteers", name := "isDoneNow", desc := "(I)Z" } : Jvm.MethodName) ∈ kv_W := kv_s (i := 1) (by decide +kernel) (by decide +kernel)
theorem kws_2 : Cond.selects "KeptVolunteers" ({ cls := "KeptVolunteers", name := "isNumber", desc := "(I)Z" } : Jvm.MethodName) ({ cls := "KeptVolunteers", name := "isNumber", desc := "(I)Z" } : Jvm.MethodName) ∈ kv_W := kv_s (i := 2) (by decide +kernel) (by decide +kernel)
theorem kws_3 : Cond.selects "KeptVolunteers" ({ cls := "KeptVolunteers", name := "mayBeCast", desc := "(II)Z" } : Jvm.MethodName) ({ cls := "KeptVolunteers", name := "mayBeCast", desc := "(II)Z" } : Jvm.MethodName) ∈ kv_W := kv_s (i := 3) (by decide +kernel) (by decide +kernel)
theorem kws_4 : Cond.selects "KeptVolunteers" ({ cls := "KeptVolunteers", name := "hasShow", desc := "()Z" } : Jvm.MethodName) ({ cls := "KeptVolunteers", name := "hasShow", desc := "()Z" } : Jvm.MethodName) ∈ kv_W := kv_s (i := 4) (by decide +kernel) (by decide +kernel)
theorem kws_5 : Cond.selects "KeptVolunteers" ({ cls := "KeptVolunteers", name := "planMost", desc := "()I" } : Jvm.MethodName) ({ cls := "KeptVolunteers", name := "planMost", desc := "()I" } : Jvm.MethodName) ∈ kv_W := kv_s (i := 5) (by decide +kernel) (by decide +kernel)
theorem kws_6 : Cond.selects "KeptVolunteers$Planner" ({ cls := "KeptVolunteers$Planner", name := "choose", desc := "(II)V" } : Jvm.MethodName) ({ cls := "KeptVolunteers$Planner", name := "choose", desc := "(II)V" } : Jvm.MethodName) ∈ kv_W := kv_s (i := 6) (by decide +kernel) (by decide +kernel)
theorem kws_7 : Cond.selects "KeptVolunteers$Planner" ({ cls := "KeptVolunteers$Planner", name := "stillOpen", desc := "(I)I" } : Jvm.MethodName) ({ cls := "KeptVolunteers$Planner", name := "stillOpen", desc := "(I)I" } : Jvm.MethodName) ∈ kv_W := kv_s (i := 7) (by decide +kernel) (by decide +kernel)
theorem kws_8 : Cond.selects "KeptVolunteers$Planner" ({ cls := "KeptVolunteers$Planner", name := "openWays", desc := "(II)I" } : Jvm.MethodName) ({ cls := "KeptVolunteers$Planner", name := "openWays", desc := "(II)I" } : Jvm.MethodName) ∈ kv_W := kv_s (i := 8) (by decide +kernel) (by decide +kernel)
theorem kws_9 : Cond.selects "KeptVolunteers$Planner" ({ cls := "KeptVolunteers$Planner", name := "hindersLater", desc := "(I)Z" } : Jvm.MethodName) ({ cls := "KeptVolunteers$Planner", name := "hindersLater", desc := "(I)Z" } : Jvm.MethodName) ∈ kv_W := kv_s (i := 9) (by decide +kernel) (by decide +kernel)
theorem kws_10 : Cond.selects "KeptVolunteers$Tour" ({ cls := "KeptVolunteers$Tour", name := "drawStrong", desc := "()I" } : Jvm.MethodName) ({ cls := "KeptVolunteers$Tour", name := "drawStrong", desc := "()I" } : Jvm.MethodName) ∈ kv_W := kv_s (i := 10) (by decide +kernel) (by decide +kernel)
theorem kws_11 : Cond.selects "KeptVolunteers$Tour" ({ cls := "KeptVolunteers$Tour", name := "callUp", desc := "(I)V" } : Jvm.MethodName) ({ cls := "KeptVolunteers$Tour", name := "callUp", desc := "(I)V" } : Jvm.MethodName) ∈ kv_W := kv_s (i := 11) (by decide +kernel) (by decide +kernel)
theorem kws_12 : Cond.selects "KeptVolunteers$Tour" ({ cls := "KeptVolunteers$Tour", name := "play", desc := "(LKeptVolunteers$Bill;)I" } : Jvm.MethodName) ({ cls := "KeptVolunteers$Tour", name := "play", desc := "(LKeptVolunteers$Bill;)I" } : Jvm.MethodName) ∈ kv_W := kv_s (i := 12) (by decide +kernel) (by decide +kernel)
theorem kws_13 : Cond.selects "KeptVolunteers$Tour" ({ cls := "KeptVolunteers$Tour", name := "busyFor", desc := "(II)I" } : Jvm.MethodName) ({ cls := "KeptVolunteers$Tour", name := "busyFor", desc := "(II)I" } : Jvm.MethodName) ∈ kv_W := kv_s (i := 13) (by decide +kernel) (by decide +kernel)
theorem kws_14 : Cond.selects "KeptVolunteers$Tour" ({ cls := "KeptVolunteers$Tour", name := "take", desc := "(LKeptVolunteers$Trick;I)I" } : Jvm.MethodName) ({ cls := "KeptVolunteers$Tour", name := "take", desc := "(LKeptVolunteers$Trick;I)I" } : Jvm.MethodName) ∈ kv_W := kv_s (i := 14) (by decide +kernel) (by decide +kernel)
theorem kws_15 : Cond.selects "KeptVolunteers$Tour" ({ cls := "KeptVolunteers$Tour", name := "sendHome", desc := "(I)V" } : Jvm.MethodName) ({ cls := "KeptVolunteers$Tour", name := "sendHome", desc := "(I)V" } : Jvm.MethodName) ∈ kv_W := kv_s (i := 15) (by decide +kernel) (by decide +kernel)
theorem kws_16 : Cond.selects "KeptVolunteers" ({ cls := "KeptVolunteers", name := "doneNow", desc := "()I" } : Jvm.MethodName) ({ cls := "KeptVolunteers", name := "doneNow", desc := "()I" } : Jvm.MethodName) ∈ kv_W := kv_s (i := 16) (by decide +kernel) (by decide +kernel)
theorem kws_17 : Cond.selects "KeptVolunteers" ({ cls := "KeptVolunteers", name := "digestOfShow", desc := "(J)J" } : Jvm.MethodName) ({ cls := "KeptVolunteers", name := "digestOfShow", desc := "(J)J" } : Jvm.MethodName) ∈ kv_W := kv_s (i := 17) (by decide +kernel) (by decide +kernel)
theorem kws_18 : Cond.selects "KeptVolunteersModel" ({ cls := "KeptVolunteersModel", name := "faultOf", desc := "()I" } : Jvm.MethodName) ({ cls := "KeptVolunteersModel", name := "faultOf", desc := "()I" } : Jvm.MethodName) ∈ kv_W := kv_s (i := 18) (by decide +kernel) (by decide +kernel)
theorem kws_19 : Cond.selects "KeptVolunteersModel" ({ cls := "KeptVolunteersModel", name := "isGood", desc := "(I)Z" } : Jvm.MethodName) ({ cls := "KeptVolunteersModel", name := "isGood", desc := "(I)Z" } : Jvm.MethodName) ∈ kv_W := kv_s (i := 19) (by decide +kernel) (by decide +kernel)
theorem kws_20 : Cond.selects "KeptVolunteersModel" ({ cls := "KeptVolunteersModel", name := "isTrickLetter", desc := "(I)Z" } : Jvm.MethodName) ({ cls := "KeptVolunteersModel", name := "isTrickLetter", desc := "(I)Z" } : Jvm.MethodName) ∈ kv_W := kv_s (i := 20) (by decide +kernel) (by decide +kernel)
theorem kws_21 : Cond.selects "KeptVolunteersModel" ({ cls := "KeptVolunteersModel", name := "isTrick", desc := "(I)Z" } : Jvm.MethodName) ({ cls := "KeptVolunteersModel", name := "isTrick", desc := "(I)Z" } : Jvm.MethodName) ∈ kv_W := kv_s (i := 21) (by decide +kernel) (by decide +kernel)
theorem kws_22 : Cond.selects "KeptVolunteersModel" ({ cls := "KeptVolunteersModel", name := "tellTrick", desc := "(II)I" } : Jvm.MethodName) ({ cls := "KeptVolunteersModel", name := "tellTrick", desc := "(II)I" } : Jvm.MethodName) ∈ kv_W := kv_s (i := 22) (by decide +kernel) (by decide +kernel)
theorem kws_23 : Cond.selects "KeptVolunteersModel" ({ cls := "KeptVolunteersModel", name := "wantsOf", desc := "(I)I" } : Jvm.MethodName) ({ cls := "KeptVolunteersModel", name := "wantsOf", desc := "(I)I" } : Jvm.MethodName) ∈ kv_W := kv_s (i := 23) (by decide +kernel) (by decide +kernel)
theorem kws_24 : Cond.selects "KeptVolunteersModel" ({ cls := "KeptVolunteersModel", name := "isDoneBy", desc := "(II)Z" } : Jvm.MethodName) ({ cls := "KeptVolunteersModel", name := "isDoneBy", desc := "(II)Z" } : Jvm.MethodName) ∈ kv_W := kv_s (i := 24) (by decide +kernel) (by decide +kernel)
theorem kws_25 : Cond.selects "KeptVolunteersModel" ({ cls := "KeptVolunteersModel", name := "strongAll", desc := "(I)I" } : Jvm.MethodName) ({ cls := "KeptVolunteersModel", name := "strongAll", desc := "(I)I" } : Jvm.MethodName) ∈ kv_W := kv_s (i := 25) (by decide +kernel) (by decide +kernel)
theorem kws_26 : Cond.selects "KeptVolunteersModel" ({ cls := "KeptVolunteersModel", name := "fittingSet", desc := "(I)I" } : Jvm.MethodName) ({ cls := "KeptVolunteersModel", name := "fittingSet", desc := "(I)I" } : Jvm.MethodName) ∈ kv_W := kv_s (i := 26) (by decide +kernel) (by decide +kernel)
theorem kws_27 : Cond.selects "KeptVolunteersModel" ({ cls := "KeptVolunteersModel", name := "isKept", desc := "(I)Z" } : Jvm.MethodName) ({ cls := "KeptVolunteersModel", name := "isKept", desc := "(I)Z" } : Jvm.MethodName) ∈ kv_W := kv_s (i := 27) (by decide +kernel) (by decide +kernel)
theorem kws_28 : Cond.selects "KeptVolunteersModel" ({ cls := "KeptVolunteersModel", name := "fitsBy", desc := "(II)Z" } : Jvm.MethodName) ({ cls := "KeptVolunteersModel", name := "fitsBy", desc := "(II)Z" } : Jvm.MethodName) ∈ kv_W := kv_s (i := 28) (by decide +kernel) (by decide +kernel)
theorem kws_29 : Cond.selects "KeptVolunteersModel" ({ cls := "KeptVolunteersModel", name := "clashSet", desc := "(I)I" } : Jvm.MethodName) ({ cls := "KeptVolunteersModel", name := "clashSet", desc := "(I)I" } : Jvm.MethodName) ∈ kv_W := kv_s (i := 29) (by decide +kernel) (by decide +kernel)
theorem kws_30 : Cond.selects "KeptVolunteersModel" ({ cls := "KeptVolunteersModel", name := "clash", desc := "(II)Z" } : Jvm.MethodName) ({ cls := "KeptVolunteersModel", name := "clash", desc := "(II)Z" } : Jvm.MethodName) ∈ kv_W := kv_s (i := 30) (by decide +kernel) (by decide +kernel)
theorem kws_31 : Cond.selects "KeptVolunteersModel" ({ cls := "KeptVolunteersModel", name := "busyBy", desc := "(I)I" } : Jvm.MethodName) ({ cls := "KeptVolunteersModel", name := "busyBy", desc := "(I)I" } : Jvm.MethodName) ∈ kv_W := kv_s (i := 31) (by decide +kernel) (by decide +kernel)
theorem kws_32 : Cond.selects "KeptVolunteersModel" ({ cls := "KeptVolunteersModel", name := "hoursOf", desc := "(I)I" } : Jvm.MethodName) ({ cls := "KeptVolunteersModel", name := "hoursOf", desc := "(I)I" } : Jvm.MethodName) ∈ kv_W := kv_s (i := 32) (by decide +kernel) (by decide +kernel)
theorem kws_33 : Cond.selects "KeptVolunteersModel" ({ cls := "KeptVolunteersModel", name := "isPerson", desc := "(I)Z" } : Jvm.MethodName) ({ cls := "KeptVolunteersModel", name := "isPerson", desc := "(I)Z" } : Jvm.MethodName) ∈ kv_W := kv_s (i := 33) (by decide +kernel) (by decide +kernel)
theorem kws_34 : Cond.selects "KeptVolunteersModel" ({ cls := "KeptVolunteersModel", name := "tellPerson", desc := "(II)I" } : Jvm.MethodName) ({ cls := "KeptVolunteersModel", name := "tellPerson", desc := "(II)I" } : Jvm.MethodName) ∈ kv_W := kv_s (i := 34) (by decide +kernel) (by decide +kernel)
theorem kws_35 : Cond.selects "KeptVolunteersModel" ({ cls := "KeptVolunteersModel", name := "castSet", desc := "(I)I" } : Jvm.MethodName) ({ cls := "KeptVolunteersModel", name := "castSet", desc := "(I)I" } : Jvm.MethodName) ∈ kv_W := kv_s (i := 35) (by decide +kernel) (by decide +kernel)
theorem kws_36 : Cond.selects "KeptVolunteersModel" ({ cls := "KeptVolunteersModel", name := "busySet", desc := "(I)I" } : Jvm.MethodName) ({ cls := "KeptVolunteersModel", name := "busySet", desc := "(I)I" } : Jvm.MethodName) ∈ kv_W := kv_s (i := 36) (by decide +kernel) (by decide +kernel)
theorem kws_37 : Cond.selects "KeptVolunteersModel" ({ cls := "KeptVolunteersModel", name := "strongsOf", desc := "(I)I" } : Jvm.MethodName) ({ cls := "KeptVolunteersModel", name := "strongsOf", desc := "(I)I" } : Jvm.MethodName) ∈ kv_W := kv_s (i := 37) (by decide +kernel) (by decide +kernel)
theorem kws_38 : Cond.selects "KeptVolunteersModel" ({ cls := "KeptVolunteersModel", name := "tryOf", desc := "(I)I" } : Jvm.MethodName) ({ cls := "KeptVolunteersModel", name := "tryOf", desc := "(I)I" } : Jvm.MethodName) ∈ kv_W := kv_s (i := 38) (by decide +kernel) (by decide +kernel)
theorem kws_39 : Cond.selects "KeptVolunteersModel" ({ cls := "KeptVolunteersModel", name := "lacks", desc := "()Z" } : Jvm.MethodName) ({ cls := "KeptVolunteersModel", name := "lacks", desc := "()Z" } : Jvm.MethodName) ∈ kv_W := kv_s (i := 39) (by decide +kernel) (by decide +kernel)
theorem kws_40 : Cond.selects "KeptVolunteersModel" ({ cls := "KeptVolunteersModel", name := "doneNow", desc := "()I" } : Jvm.MethodName) ({ cls := "KeptVolunteersModel", name := "doneNow", desc := "()I" } : Jvm.MethodName) ∈ kv_W := kv_s (i := 40) (by decide +kernel) (by decide +kernel)
theorem kws_41 : Cond.selects "KeptVolunteersModel" ({ cls := "KeptVolunteersModel", name := "keptSet", desc := "()I" } : Jvm.MethodName) ({ cls := "KeptVolunteersModel", name := "keptSet", desc := "()I" } : Jvm.MethodName) ∈ kv_W := kv_s (i := 41) (by decide +kernel) (by decide +kernel)
theorem kws_42 : Cond.selects "KeptVolunteersModel" ({ cls := "KeptVolunteersModel", name := "mostOf", desc := "(I)I" } : Jvm.MethodName) ({ cls := "KeptVolunteersModel", name := "mostOf", desc := "(I)I" } : Jvm.MethodName) ∈ kv_W := kv_s (i := 42) (by decide +kernel) (by decide +kernel)
theorem kws_43 : Cond.selects "KeptVolunteersModel" ({ cls := "KeptVolunteersModel", name := "layMost", desc := "(I)I" } : Jvm.MethodName) ({ cls := "KeptVolunteersModel", name := "layMost", desc := "(I)I" } : Jvm.MethodName) ∈ kv_W := kv_s (i := 43) (by decide +kernel) (by decide +kernel)
theorem kws_44 : Cond.selects "KeptVolunteersModel" ({ cls := "KeptVolunteersModel", name := "layChoices", desc := "(I)V" } : Jvm.MethodName) ({ cls := "KeptVolunteersModel", name := "layChoices", desc := "(I)V" } : Jvm.MethodName) ∈ kv_W := kv_s (i := 44) (by decide +kernel) (by decide +kernel)
theorem kws_45 : Cond.selects "KeptVolunteersModel" ({ cls := "KeptVolunteersModel", name := "isFree", desc := "(II)Z" } : Jvm.MethodName) ({ cls := "KeptVolunteersModel", name := "isFree", desc := "(II)Z" } : Jvm.MethodName) ∈ kv_W := kv_s (i := 45) (by decide +kernel) (by decide +kernel)
theorem kws_46 : Cond.selects "KeptVolunteersModel" ({ cls := "KeptVolunteersModel", name := "fewestOf", desc := "(I)I" } : Jvm.MethodName) ({ cls := "KeptVolunteersModel", name := "fewestOf", desc := "(I)I" } : Jvm.MethodName) ∈ kv_W := kv_s (i := 46) (by decide +kernel) (by decide +kernel)
theorem kws_47 : Cond.selects "KeptVolunteersModel" ({ cls := "KeptVolunteersModel", name := "spareOf", desc := "()I" } : Jvm.MethodName) ({ cls := "KeptVolunteersModel", name := "spareOf", desc := "()I" } : Jvm.MethodName) ∈ kv_W := kv_s (i := 47) (by decide +kernel) (by decide +kernel)
theorem kws_48 : Cond.selects "KeptVolunteersModel" ({ cls := "KeptVolunteersModel", name := "wantsAt", desc := "(I)I" } : Jvm.MethodName) ({ cls := "KeptVolunteersModel", name := "wantsAt", desc := "(I)I" } : Jvm.MethodName) ∈ kv_W := kv_s (i := 48) (by decide +kernel) (by decide +kernel)
theorem kws_49 : Cond.selects "KeptVolunteersModel" ({ cls := "KeptVolunteersModel", name := "routeOf", desc := "(II)I" } : Jvm.MethodName) ({ cls := "KeptVolunteersModel", name := "routeOf", desc := "(II)I" } : Jvm.MethodName) ∈ kv_W := kv_s (i := 49) (by decide +kernel) (by decide +kernel)
theorem kws_50 : Cond.selects "KeptVolunteersModel" ({ cls := "KeptVolunteersModel", name := "draw", desc := "(I)I" } : Jvm.MethodName) ({ cls := "KeptVolunteersModel", name := "draw", desc := "(I)I" } : Jvm.MethodName) ∈ kv_W := kv_s (i := 50) (by decide +kernel) (by decide +kernel)
theorem kws_51 : Cond.selects "KeptVolunteersModel" ({ cls := "KeptVolunteersModel", name := "takesLine", desc := "(I)Z" } : Jvm.MethodName) ({ cls := "KeptVolunteersModel", name := "takesLine", desc := "(I)Z" } : Jvm.MethodName) ∈ kv_W := kv_s (i := 51) (by decide +kernel) (by decide +kernel)
theorem kws_52 : Cond.selects "KeptVolunteersModel" ({ cls := "KeptVolunteersModel", name := "letLineGo", desc := "()I" } : Jvm.MethodName) ({ cls := "KeptVolunteersModel", name := "letLineGo", desc := "()I" } : Jvm.MethodName) ∈ kv_W := kv_s (i := 52) (by decide +kernel) (by decide +kernel)
theorem kws_53 : Cond.selects "KeptVolunteersModel" ({ cls := "KeptVolunteersModel", name := "countOf", desc := "(I)I" } : Jvm.MethodName) ({ cls := "KeptVolunteersModel", name := "countOf", desc := "(I)I" } : Jvm.MethodName) ∈ kv_W := kv_s (i := 53) (by decide +kernel) (by decide +kernel)
theorem kws_54 : Cond.selects "KeptVolunteersModel" ({ cls := "KeptVolunteersModel", name := "bound", desc := "()I" } : Jvm.MethodName) ({ cls := "KeptVolunteersModel", name := "bound", desc := "()I" } : Jvm.MethodName) ∈ kv_W := kv_s (i := 54) (by decide +kernel) (by decide +kernel)
theorem kws_55 : Cond.selects "KeptVolunteersModel" ({ cls := "KeptVolunteersModel", name := "countMore", desc := "(I)I" } : Jvm.MethodName) ({ cls := "KeptVolunteersModel", name := "countMore", desc := "(I)I" } : Jvm.MethodName) ∈ kv_W := kv_s (i := 55) (by decide +kernel) (by decide +kernel)
theorem kws_56 : Cond.selects "KeptVolunteersModel" ({ cls := "KeptVolunteersModel", name := "say", desc := "(J)V" } : Jvm.MethodName) ({ cls := "KeptVolunteersModel", name := "say", desc := "(J)V" } : Jvm.MethodName) ∈ kv_W := kv_s (i := 56) (by decide +kernel) (by decide +kernel)
theorem kin0 : ∀ w ∈ u_ws RX0 TX0 2, w ∈ kv_W := by
  intro w hw
  obtain ⟨k, hk, rfl⟩ := List.mem_map.mp hw
  have hk := List.mem_range.mp hk
  match k, hk with
  | 0, _ => exact kw1_183
  | 1, _ => exact kw1_185
  | n + 2, h => exact absurd h (by omega)
theorem kin1 : ∀ w ∈ u_ws RX1 TX1 3, w ∈ kv_W := by
  intro w hw
  obtain ⟨k, hk, rfl⟩ := List.mem_map.mp hw
  have hk := List.mem_range.mp hk
  match k, hk with
  | 0, _ => exact kw2_171
  | 1, _ => exact kw2_172
  | 2, _ => exact kw2_173
  | n + 3, h => exact absurd h (by omega)
theorem kin2 : ∀ w ∈ u_ws RX2 TX2 2, w ∈ kv_W := by
  intro w hw
  obtain ⟨k, hk, rfl⟩ := List.mem_map.mp hw
  have hk := List.mem_range.mp hk
  match k, hk with
  | 0, _ => exact kw1_40
  | 1, _ => exact kw1_42
  | n + 2, h => exact absurd h (by omega)
theorem kin3 : ∀ w ∈ u_ws RX3 TX3 3, w ∈ kv_W := by
  intro w hw
  obtain ⟨k, hk, rfl⟩ := List.mem_map.mp hw
  have hk := List.mem_range.mp hk
  match k, hk with
  | 0, _ => exact kw2_148
  | 1, _ => exact kw2_150
  | 2, _ => exact kw2_152
  | n + 3, h => exact absurd h (by omega)
theorem kin4 : ∀ w ∈ u_ws RX4 TX4 8, w ∈ kv_W := by
  intro w hw
  obtain ⟨k, hk, rfl⟩ := List.mem_map.mp hw
  have hk := List.mem_range.mp hk
  match k, hk with
  | 0, _ => exact kw1_124
  | 1, _ => exact kw1_126
  | 2, _ => exact kw1_128
  | 3, _ => exact kw1_130
  | 4, _ => exact kw1_132
  | 5, _ => exact kw1_134
  | 6, _ => exact kw1_136
  | 7, _ => exact kw1_138
  | n + 8, h => exact absurd h (by omega)
theorem kin5 : ∀ w ∈ u_ws RX5 TX5 3, w ∈ kv_W := by
  intro w hw
  obtain ⟨k, hk, rfl⟩ := List.mem_map.mp hw
  have hk := List.mem_range.mp hk
  match k, hk with
  | 0, _ => exact kw2_181
  | 1, _ => exact kw2_182
  | 2, _ => exact kw2_183
  | n + 3, h => exact absurd h (by omega)
theorem kin6 : ∀ w ∈ u_ws RX6 TX6 3, w ∈ kv_W := by
  intro w hw
  obtain ⟨k, hk, rfl⟩ := List.mem_map.mp hw
  have hk := List.mem_range.mp hk
  match k, hk with
  | 0, _ => exact kw2_161
  | 1, _ => exact kw2_162
  | 2, _ => exact kw2_163
  | n + 3, h => exact absurd h (by omega)
theorem kin7 : ∀ w ∈ u_ws RX7 TX7 6, w ∈ kv_W := by
  intro w hw
  obtain ⟨k, hk, rfl⟩ := List.mem_map.mp hw
  have hk := List.mem_range.mp hk
  match k, hk with
  | 0, _ => exact kw1_156
  | 1, _ => exact kw1_158
  | 2, _ => exact kw1_160
  | 3, _ => exact kw1_162
  | 4, _ => exact kw1_164
  | 5, _ => exact kw1_166
  | n + 6, h => exact absurd h (by omega)
theorem kin8 : ∀ w ∈ u_ws RX8 TX8 3, w ∈ kv_W := by
  intro w hw
  obtain ⟨k, hk, rfl⟩ := List.mem_map.mp hw
  have hk := List.mem_range.mp hk
  match k, hk with
  | 0, _ => exact kw2_187
  | 1, _ => exact kw2_188
  | 2, _ => exact kw2_189
  | n + 3, h => exact absurd h (by omega)
theorem kin9 : ∀ w ∈ u_ws RX9 TX9 14, w ∈ kv_W := by
  intro w hw
  obtain ⟨k, hk, rfl⟩ := List.mem_map.mp hw
  have hk := List.mem_range.mp hk
  match k, hk with
  | 0, _ => exact kw1_80
  | 1, _ => exact kw1_82
  | 2, _ => exact kw1_84
  | 3, _ => exact kw1_86
  | 4, _ => exact kw1_88
  | 5, _ => exact kw1_90
  | 6, _ => exact kw1_92
  | 7, _ => exact kw1_94
  | 8, _ => exact kw1_96
  | 9, _ => exact kw1_98
  | 10, _ => exact kw1_100
  | 11, _ => exact kw1_102
  | 12, _ => exact kw1_104
  | 13, _ => exact kw1_106
  | n + 14, h => exact absurd h (by omega)
theorem kin10 : ∀ w ∈ u_ws RX10 TX10 11, w ∈ kv_W := by
  intro w hw
  obtain ⟨k, hk, rfl⟩ := List.mem_map.mp hw
  have hk := List.mem_range.mp hk
  match k, hk with
  | 0, _ => exact kw1_199
  | 1, _ => exact kw1_201
  | 2, _ => exact kw1_203
  | 3, _ => exact kw1_205
  | 4, _ => exact kw1_207
  | 5, _ => exact kw1_209
  | 6, _ => exact kw1_211
  | 7, _ => exact kw1_213
  | 8, _ => exact kw1_215
  | 9, _ => exact kw1_217
  | 10, _ => exact kw1_219
  | n + 11, h => exact absurd h (by omega)
theorem kin11 : ∀ w ∈ u_ws RX11 TX11 42, w ∈ kv_W := by
  intro w hw
  obtain ⟨k, hk, rfl⟩ := List.mem_map.mp hw
  have hk := List.mem_range.mp hk
  match k, hk with
  | 0, _ => exact kw4_179
  | 1, _ => exact kw4_181
  | 2, _ => exact kw4_183
  | 3, _ => exact kw4_185
  | 4, _ => exact kw4_187
  | 5, _ => exact kw4_189
  | 6, _ => exact kw4_191
  | 7, _ => exact kw4_193
  | 8, _ => exact kw4_195
  | 9, _ => exact kw4_197
  | 10, _ => exact kw4_199
  | 11, _ => exact kw4_201
  | 12, _ => exact kw4_203
  | 13, _ => exact kw4_205
  | 14, _ => exact kw4_207
  | 15, _ => exact kw4_209
  | 16, _ => exact kw4_211
  | 17, _ => exact kw4_213
  | 18, _ => exact kw4_215
  | 19, _ => exact kw4_217
  | 20, _ => exact kw4_219
  | 21, _ => exact kw4_221
  | 22, _ => exact kw4_223
  | 23, _ => exact kw4_225
  | 24, _ => exact kw4_227
  | 25, _ => exact kw4_229
  | 26, _ => exact kw4_231
  | 27, _ => exact kw4_233
  | 28, _ => exact kw4_235
  | 29, _ => exact kw4_237
  | 30, _ => exact kw4_239
  | 31, _ => exact kw5_1
  | 32, _ => exact kw5_3
  | 33, _ => exact kw5_5
  | 34, _ => exact kw5_7
  | 35, _ => exact kw5_9
  | 36, _ => exact kw5_11
  | 37, _ => exact kw5_13
  | 38, _ => exact kw5_15
  | 39, _ => exact kw5_17
  | 40, _ => exact kw5_19
  | 41, _ => exact kw5_21
  | n + 42, h => exact absurd h (by omega)
end
section
/-! THE ENGINE: a small machine over a list of cells; every rule is proved once from the kit's rows. -/
/-- a cell: ints, references to tricks, or an object (its place among vwCl, its fields) -/
abbrev kv_C : Type := List Int32 ⊕ (List (Option Nat) ⊕ (Nat × List Value))
abbrev kv_H : Type := List kv_C
/-- launch, places, int[], Trick[], the first new address, the text constant, its bytes -/
abbrev kv_Z : Type := Launch × va_G × ClassId × ClassId × Nat × Nat × Nat
abbrev kv_D (Z : kv_Z) : va_G := Z.2.1
abbrev kv_I (Z : kv_Z) : ClassId := Z.2.2.1
abbrev kv_T (Z : kv_Z) : ClassId := Z.2.2.2.1
abbrev kv_b (Z : kv_Z) : Nat := Z.2.2.2.2.1
abbrev kv_x (Z : kv_Z) : Nat := Z.2.2.2.2.2.1
abbrev kv_y (Z : kv_Z) : Nat := Z.2.2.2.2.2.2
def kv_r (Z : kv_Z) (v : Value) : Value := match v with
  | .ref a => .ref (kv_b Z + a)
  | .retAddr 0 => .ref (kv_x Z)
  | .retAddr (_ + 1) => .ref (kv_y Z)
  | .int x => .int x
  | .long x => .long x
  | .float x => .float x
  | .double x => .double x
  | .null => .null
theorem kv_r_cat (Z : kv_Z) (v : Value) : (kv_r Z v).category = v.category := by
  cases v with
  | retAddr k => cases k <;> rfl
  | _ => rfl
def kv_cv (Z : kv_Z) (c : kv_C) : va_E := match c with
  | .inl xs => .inl (kv_I Z, xs.length, .inl (fun k => xs.getD k 0))
  | .inr (.inl rs) => .inl (kv_T Z, rs.length, .inr (.inr (.inr (.inr (fun k => (rs.getD k none).map (kv_b Z + ·))))))
  | .inr (.inr q) => .inr (q.1, q.2.map (kv_r Z))
def kv_wf (Z : kv_Z) : Nat → kv_H → va_W
  | _, [] => []
  | n, c :: l => (kv_b Z + n, kv_cv Z c) :: kv_wf Z (n + 1) l
abbrev kv_w (Z : kv_Z) (h : kv_H) : va_W := kv_wf Z 0 h
theorem kv_wf_get (Z : kv_Z) : ∀ (h : kv_H) (n k : Nat), (kv_wf Z n h)[k]? = (h[k]?).map (fun c => (kv_b Z + (n + k), kv_cv Z c))
  | [], n, k => by simp [kv_wf]
  | c :: l, n, 0 => by simp [kv_wf]
  | c :: l, n, k + 1 => by
    rw [kv_wf, List.getElem?_cons_succ, List.getElem?_cons_succ, kv_wf_get Z l (n + 1) k]
    congr 2
    funext c
    rw [show n + 1 + k = n + (k + 1) by omega]
theorem kv_w_get {Z : kv_Z} {h : kv_H} {k : Nat} {c : kv_C} (hk : h[k]? = some c) : (kv_w Z h)[k]? = some (kv_b Z + k, kv_cv Z c) := by
  rw [kv_wf_get, hk]; simp
theorem kv_wf_set (Z : kv_Z) : ∀ (h : kv_H) (n k : Nat) (c : kv_C), (kv_wf Z n h).set k (kv_b Z + (n + k), kv_cv Z c) = kv_wf Z n (h.set k c)
  | [], n, k, c => by simp [kv_wf]
  | d :: l, n, 0, c => by simp [kv_wf]
  | d :: l, n, k + 1, c => by
    rw [kv_wf, List.set_cons_succ, List.set_cons_succ, kv_wf, ← kv_wf_set Z l (n + 1) k c, show n + 1 + k = n + (k + 1) by omega]
theorem kv_w_set (Z : kv_Z) (h : kv_H) (k : Nat) (c : kv_C) : (kv_w Z h).set k (kv_b Z + k, kv_cv Z c) = kv_w Z (h.set k c) := by
  have e := kv_wf_set Z h 0 k c
  rw [Nat.zero_add] at e
  exact e
theorem kv_wf_app (Z : kv_Z) : ∀ (h : kv_H) (n : Nat) (c : kv_C), kv_wf Z n (h ++ [c]) = kv_wf Z n h ++ [(kv_b Z + (n + h.length), kv_cv Z c)]
  | [], n, c => by simp [kv_wf]
  | d :: l, n, c => by
    rw [List.cons_append, kv_wf, kv_wf_app Z l (n + 1) c, kv_wf, List.cons_append, List.length_cons, show n + 1 + l.length = n + (l.length + 1) by omega]
theorem kv_w_app (Z : kv_Z) (h : kv_H) (c : kv_C) : kv_w Z (h ++ [c]) = kv_w Z h ++ [(kv_b Z + h.length, kv_cv Z c)] := by
  have e := kv_wf_app Z h 0 c
  rw [Nat.zero_add] at e
  exact e
abbrev kv_A (Z : kv_Z) : Nat → Prop := fun q => kv_b Z ≤ q
theorem kv_w_D (Z : kv_Z) (h : kv_H) : va_D (kv_A Z) (kv_w Z h) := by
  have key : ∀ (k : Nat) (q : Nat × va_E), (kv_w Z h)[k]? = some q → q.1 = kv_b Z + k := by
    intro k q hq
    rw [kv_wf_get] at hq
    cases hc : h[k]? with
    | none => rw [hc] at hq; cases hq
    | some c => rw [hc] at hq; cases hq; simp
  refine ⟨fun i j x y hx hy e => ?_, fun k q hq => ?_⟩
  · have h1 := key i x hx
    have h2 := key j y hy
    omega
  · have h1 := key k q hq
    show kv_b Z ≤ q.1
    omega
/-- how many fields and elements -/
def kv_cs (c : kv_C) : Nat := match c with
  | .inl xs => xs.length
  | .inr (.inl rs) => rs.length
  | .inr (.inr q) => q.2.length
def kv_sl : kv_H → Nat
  | [] => 0
  | c :: l => kv_cs c + kv_sl l
theorem kv_sl_set : ∀ (h : kv_H) (k : Nat) (c d : kv_C), h[k]? = some d → kv_cs c = kv_cs d → kv_sl (h.set k c) = kv_sl h
  | [], k, c, d, hk, e => by simp at hk
  | x :: l, 0, c, d, hk, e => by
    simp only [List.getElem?_cons_zero, Option.some.injEq] at hk
    subst hk
    simp [kv_sl, e]
  | x :: l, k + 1, c, d, hk, e => by
    rw [List.getElem?_cons_succ] at hk
    rw [List.set_cons_succ, kv_sl, kv_sl, kv_sl_set l k c d hk e]
theorem kv_sl_app : ∀ (h : kv_H) (c : kv_C), kv_sl (h ++ [c]) = kv_sl h + kv_cs c
  | [], c => by simp [kv_sl]
  | x :: l, c => by rw [List.cons_append, kv_sl, kv_sl, kv_sl_app l c]; omega
/-- locals, by their places -/
def kv_as (Z : kv_Z) : Nat → List (Option Value) → List (Nat × Value)
  | _, [] => []
  | n, none :: l => kv_as Z (n + 1) l
  | n, some v :: l => (n, kv_r Z v) :: kv_as Z (n + 1) l
theorem kv_as_mem (Z : kv_Z) : ∀ (l : List (Option Value)) (n i : Nat) (w : Value), (i, w) ∈ kv_as Z n l ↔ ∃ (k : Nat) (v : Value), i = n + k ∧ l[k]? = some (some v) ∧ w = kv_r Z v
  | [], n, i, w => by simp [kv_as]
  | none :: l, n, i, w => by
    rw [kv_as, kv_as_mem Z l (n + 1) i w]
    constructor
    · rintro ⟨k, v, h1, h2, h3⟩
      exact ⟨k + 1, v, by omega, by simpa using h2, h3⟩
    · rintro ⟨k, v, h1, h2, h3⟩
      cases k with
      | zero => simp at h2
      | succ k => exact ⟨k, v, by omega, by simpa using h2, h3⟩
  | some u :: l, n, i, w => by
    rw [kv_as, List.mem_cons, kv_as_mem Z l (n + 1) i w]
    constructor
    · rintro (h | ⟨k, v, h1, h2, h3⟩)
      · cases h
        exact ⟨0, u, rfl, rfl, rfl⟩
      · exact ⟨k + 1, v, by omega, by simpa using h2, h3⟩
    · rintro ⟨k, v, h1, h2, h3⟩
      cases k with
      | zero =>
        simp only [List.getElem?_cons_zero, Option.some.injEq] at h2
        subst h2
        exact Or.inl (by rw [h1, h3]; rfl)
      | succ k => exact Or.inr ⟨k, v, by omega, by simpa using h2, h3⟩
def kv_L (Z : kv_Z) (L : Array Slot) (n : Nat) (ls : List (Option Value)) : Prop := lv_has L n (kv_as Z 0 ls)
theorem kv_L_at {Z : kv_Z} {L : Array Slot} {n i : Nat} {ls : List (Option Value)} {v : Value} (h : kv_L Z L n ls) (hi : ls[i]? = some (some v)) : L[i]? = some (.val (kv_r Z v)) :=
  h.2.2 (i, kv_r Z v) ((kv_as_mem Z ls 0 i _).mpr ⟨i, v, by omega, hi, rfl⟩)
/-- a long ahead of a place is lost when the place is written -/
def kv_cl (ls : List (Option Value)) (i : Nat) : List (Option Value) := match i with
  | 0 => ls
  | j + 1 => match ls[j]? with
    | some (some (.long _)) => ls.set j none
    | some (some (.double _)) => ls.set j none
    | _ => ls
theorem kv_cl_get {ls : List (Option Value)} {i j : Nat} {v : Value} (h : (kv_cl ls i)[j]? = some (some v)) : ls[j]? = some (some v) ∧ ¬ (j + 1 = i ∧ v.category = 2) := by
  cases i with
  | zero => exact ⟨h, fun z => absurd z.1 (by omega)⟩
  | succ i =>
    have gen : ∀ w : Value, w.category = 2 → ls[i]? = some (some w) → (ls.set i none)[j]? = some (some v) → ls[j]? = some (some v) ∧ ¬ (j + 1 = i + 1 ∧ v.category = 2) := by
      intro w hw hi hj
      by_cases e : i = j
      · subst e
        rw [List.getElem?_set_self (List.getElem?_eq_some_iff.mp hi).1] at hj
        cases hj
      · rw [List.getElem?_set_ne e] at hj
        exact ⟨hj, fun z => e (by omega)⟩
    have oth : (∀ w : Value, ls[i]? = some (some w) → w.category = 1) → ls[j]? = some (some v) → ls[j]? = some (some v) ∧ ¬ (j + 1 = i + 1 ∧ v.category = 2) := by
      intro hw hj
      refine ⟨hj, fun z => ?_⟩
      have e : j = i := by omega
      subst e
      have := hw v hj
      omega
    cases hc : ls[i]? with
    | none => exact oth (fun w hw => by rw [hc] at hw; cases hw) (by simpa [kv_cl, hc] using h)
    | some o =>
      cases o with
      | none => exact oth (fun w hw => by rw [hc] at hw; cases hw) (by simpa [kv_cl, hc] using h)
      | some w =>
        cases w with
        | long x => exact gen _ rfl hc (by simpa [kv_cl, hc] using h)
        | double x => exact gen _ rfl hc (by simpa [kv_cl, hc] using h)
        | _ => exact oth (fun w hw => by rw [hc] at hw; cases hw; rfl) (by simpa [kv_cl, hc] using h)
def kv_s1 (ls : List (Option Value)) (i : Nat) (v : Value) : List (Option Value) := (kv_cl ls i).set i (some v)
def kv_s2 (ls : List (Option Value)) (i : Nat) (v : Value) : List (Option Value) := ((kv_cl ls i).set (i + 1) none).set i (some v)
theorem kv_L_s1 {Z : kv_Z} {L L' : Array Slot} {n i : Nat} {ls : List (Option Value)} {v : Value} (h : lv_has L' n ((i, kv_r Z v) :: (kv_as Z 0 ls).filter (fun q => !(q.1 == i) && !(q.1 + 1 == i && q.2.category == 2)))) : kv_L Z L' n (kv_s1 ls i v) := by
  refine ⟨h.1, h.2.1, fun q hq => ?_⟩
  obtain ⟨j, w⟩ := q
  obtain ⟨k, u, e1, e2, e3⟩ := (kv_as_mem Z _ 0 j w).mp hq
  rw [Nat.zero_add] at e1
  subst e1
  by_cases hji : j = i
  · subst hji
    have hlt : j < (kv_cl ls j).length := by
      have := (List.getElem?_eq_some_iff.mp e2).1
      simpa [kv_s1] using this
    rw [kv_s1, List.getElem?_set_self hlt] at e2
    cases e2
    exact h.2.2 _ (by rw [e3]; exact List.mem_cons_self)
  · rw [kv_s1, List.getElem?_set_ne (Ne.symm hji)] at e2
    obtain ⟨g1, g2⟩ := kv_cl_get e2
    refine h.2.2 _ (List.mem_cons_of_mem _ (List.mem_filter.mpr ⟨(kv_as_mem Z _ 0 j w).mpr ⟨j, u, by omega, g1, e3⟩, ?_⟩))
    have hc : w.category = u.category := by rw [e3, kv_r_cat]
    simp only [hc]
    simp [hji]
    exact Decidable.not_and_iff_not_or_not.mp g2
theorem kv_L_s2 {Z : kv_Z} {L L' : Array Slot} {n i : Nat} {ls : List (Option Value)} {v : Value} (h : lv_has L' n ((i, kv_r Z v) :: (kv_as Z 0 ls).filter (fun q => !(q.1 == i) && (!(q.1 == i + 1) && !(q.1 + 1 == i && q.2.category == 2))))) : kv_L Z L' n (kv_s2 ls i v) := by
  refine ⟨h.1, h.2.1, fun q hq => ?_⟩
  obtain ⟨j, w⟩ := q
  obtain ⟨k, u, e1, e2, e3⟩ := (kv_as_mem Z _ 0 j w).mp hq
  rw [Nat.zero_add] at e1
  subst e1
  by_cases hji : j = i
  · subst hji
    have hlt : j < ((kv_cl ls j).set (j + 1) none).length := by
      have := (List.getElem?_eq_some_iff.mp e2).1
      simpa [kv_s2] using this
    rw [kv_s2, List.getElem?_set_self hlt] at e2
    cases e2
    exact h.2.2 _ (by rw [e3]; exact List.mem_cons_self)
  · rw [kv_s2, List.getElem?_set_ne (Ne.symm hji)] at e2
    by_cases hj1 : j = i + 1
    · subst hj1
      have hlt : i + 1 < (kv_cl ls i).length := by
        have := (List.getElem?_eq_some_iff.mp e2).1
        simpa using this
      rw [List.getElem?_set_self hlt] at e2
      cases e2
    · rw [List.getElem?_set_ne (Ne.symm hj1)] at e2
      obtain ⟨g1, g2⟩ := kv_cl_get e2
      refine h.2.2 _ (List.mem_cons_of_mem _ (List.mem_filter.mpr ⟨(kv_as_mem Z _ 0 j w).mpr ⟨j, u, by omega, g1, e3⟩, ?_⟩))
      have hc : w.category = u.category := by rw [e3, kv_r_cat]
      simp only [hc]
      simp [hji, hj1]
      exact Decidable.not_and_iff_not_or_not.mp g2
/-- fewer locals -/
def kv_sub : List (Option Value) → List (Option Value) → Prop
  | _, [] => True
  | [], none :: l => kv_sub [] l
  | [], some _ :: _ => False
  | _ :: k, none :: l => kv_sub k l
  | u :: k, some v :: l => u = some v ∧ kv_sub k l
theorem kv_sub_get : ∀ (k l : List (Option Value)), kv_sub k l → ∀ (i : Nat) (v : Value), l[i]? = some (some v) → k[i]? = some (some v)
  | _, [], _, i, v, h => by simp at h
  | [], none :: l, s, i, v, h => by
    cases i with
    | zero => simp at h
    | succ i =>
      have := kv_sub_get [] l s i v (by simpa using h)
      simp at this
  | [], some _ :: _, s, _, _, _ => s.elim
  | _ :: k, none :: l, s, i, v, h => by
    cases i with
    | zero => simp at h
    | succ i => simpa using kv_sub_get k l s i v (by simpa using h)
  | u :: k, some w :: l, s, i, v, h => by
    cases i with
    | zero => rw [s.1]; simpa using h
    | succ i => simpa using kv_sub_get k l s.2 i v (by simpa using h)
theorem kv_L_sub {Z : kv_Z} {L : Array Slot} {n : Nat} {k l : List (Option Value)} (h : kv_L Z L n k) (hs : kv_sub k l) : kv_L Z L n l := by
  refine ⟨h.1, h.2.1, fun q hq => ?_⟩
  obtain ⟨j, w⟩ := q
  obtain ⟨i, u, e1, e2, e3⟩ := (kv_as_mem Z _ 0 j w).mp hq
  exact h.2.2 _ ((kv_as_mem Z _ 0 j w).mpr ⟨i, u, e1, kv_sub_get k l hs i u e2, e3⟩)
end
section
/-! THE JUDGEMENT kv_V and the contract kv_M -/
/-- a method: name, code, locals, what it returns -/
abbrev kv_Me : Type := MethodName × ByteArray × Nat × Option FieldType
abbrev kv_code (M : kv_Me) : Cond := .code M.1 M.2.1 M.2.2.1 M.2.2.2
abbrev kv_ws (M : kv_Me) : List Cond := kv_code M :: kv_W
def kv_R (d mc ms : Nat) : Room := { frames := d + 1, cells := mc, slots := ms, locals := 64 * (d + 1) }
def kv_nest : List (String × Nat × MethodName × String) := [(RX9, 67, yX10_has, RX10), (RX7, 80, yX10_has, RX10), (RX4, 82, yX10_has, RX10), (RX0, 34, yX10_has, RX10), (RX10, 9, yX2_init, RX10), (RX10, 35, yX7_init, RX10), (RX10, 18, yX9_init, RX10)]
def kv_can : List (String × String) := [(RX1, RX8), (RX3, RX8), (RX5, RX8), (RX6, RX8), (RX5, RX3)]
def kv_cannot : List (String × String) := [(RX8, RX3), (RX1, RX3), (RX6, RX3), (RX8, RX6), (RX1, RX6), (RX3, RX6), (RX5, RX6), (RX8, RX1), (RX3, RX1), (RX6, RX1), (RX5, RX1), (RX8, RX5), (RX1, RX5), (RX6, RX5), (RX3, RX5)]
abbrev kv_tys (Z : kv_Z) : List (ClassId × FieldType) := [(kv_I Z, .int), (kv_T Z, .object RX8)]
def kv_byt : List (List Int32) := [[116, 112, 115, 108, 114]]
/-- what stays true of the tables and of the old heap -/
def kv_K (Z : kv_Z) (U : State) : Prop :=
  va_K (kv_D Z) vwCl (kv_tys Z) U ∧ (∀ q ∈ kv_nest, va_Nw (.methodLinkNest q.1 q.2.1 q.2.2.1 q.2.2.2) U) ∧ va_AO RX8 U ∧ (∀ q ∈ kv_can, va_Nw (.castable q.1 q.2) U) ∧ (∀ q ∈ kv_cannot, va_Nc q.1 q.2 U) ∧
  vk_R RX2 34 "tpslr" (kv_x Z) U ∧ vk_S 1 [5] kv_byt (fun _ => kv_x Z) (fun _ => kv_y Z) (kv_A Z) U U.heap ∧ va_Z "java/lang/String" "COMPACT_STRINGS" "Z" (.int 1) (kv_A Z) U U.heap
theorem kv_K.at {Z : kv_Z} {s U : State} {H : Heap} {locs : List Loc} (h : kv_K Z s) (hW : s.WarmedH U.vm) (hU : U.heap = H) (hS : va_S (kv_A Z) s.heap H locs) : kv_K Z U := by
  obtain ⟨h1, h2, h3, h4, h5, h6, h7, h8⟩ := h
  refine ⟨va_K.moved hW.alike h1, fun q hq => va_Nw.warmM hW (h2 q hq), va_AO.moved hW.alike h3, fun q hq => va_Nw.warmC hW (h4 q hq), fun q hq => va_Nc.moved hW.alike (h5 q hq), vk_R.warm hW h6, ?_, ?_⟩
  · rw [hU]; exact (vk_S.moved hW.alike h7).kept hS.2.1
  · rw [hU]; exact (va_Z.moved hW.alike h8).kept hS.2.1
theorem kv_K.same {Z : kv_Z} {s U : State} (h : kv_K Z s) (hv : U.vm = s.vm) (hU : U.heap = s.heap) : kv_K Z U := by
  obtain ⟨h1, h2, h3, h4, h5, h6, h7, h8⟩ := h
  have ha : s.vm.Alike U.vm := by rw [hv]; exact Vm.Alike.refl _
  refine ⟨va_K.moved ha h1, fun q hq => va_Nw.same rfl hv.symm (h2 q hq), va_AO.moved ha h3, fun q hq => va_Nw.same rfl hv.symm (h4 q hq), fun q hq => va_Nc.moved ha (h5 q hq), vk_R.same hv h6, ?_, ?_⟩
  · rw [hU]; exact vk_S.moved ha h7
  · rw [hU]; exact va_Z.moved ha h8
/-- what a method's end is -/
def kv_Q (Z : kv_Z) (r : Option Value) (h' : kv_H) : Array Value → State → Outcome → State → Prop := fun _ st o t => o = .returned (r.map (kv_r Z)) ∧ va_P (kv_D Z) vwCl (kv_w Z h') t.heap ∧ va_F (kv_A Z) st t
/-- what a method's start is -/
def kv_P (Z : kv_Z) (av : List Value) (h : kv_H) : Array Value → State → Prop := va_Pc (av.map (kv_r Z)) (fun U => U.heap.size = kv_b Z + h.length ∧ va_P (kv_D Z) vwCl (kv_w Z h) U.heap ∧ kv_K Z U)
def kv_le (h h' : kv_H) : Prop := h.length ≤ h'.length ∧ kv_sl h ≤ kv_sl h'
theorem kv_le.rf (h : kv_H) : kv_le h h := ⟨Nat.le_refl _, Nat.le_refl _⟩
theorem kv_le.tr {a b c : kv_H} (h : kv_le a b) (g : kv_le b c) : kv_le a c := ⟨Nat.le_trans h.1 g.1, Nat.le_trans h.2 g.2⟩
/-- THE CONTRACT of a method at a heap: it returns r, and leaves h' -/
def kv_M (Z : kv_Z) (d : Nat) (M : kv_Me) (av : List Value) (h : kv_H) (r : Option Value) (h' : kv_H) : Prop :=
  kv_le h h' ∧ Met Z.1 M.1 (kv_ws M) (kv_R d (h'.length - h.length) (kv_sl h' - kv_sl h)) (kv_P Z av h) (kv_Q Z r h') (h'.length - h.length) (kv_sl h' - kv_sl h) (kv_A Z)
def kv_fix (Z : kv_Z) (M : kv_Me) (n0 : Nat) (p : Program) (s : State) (m : MethodId) (args : Array Value) (meth : Method) (c : Code) : Prop :=
  p.tables.exec = Jvm.exec ∧ c.code = M.2.1 ∧ meth.sig.returnType = M.2.2.2 ∧ meth.locks = false ∧ c.maxLocals = M.2.2.1 ∧ s.vm.findClass M.1.cls = some m.cls ∧ (∀ w ∈ kv_ws M, w.before args s = true) ∧ kv_K Z s ∧ s.heap.size = kv_b Z + n0 ∧ meth.name = M.1.name
/-- THE JUDGEMENT: from this place of method M it comes to the end r, h' -/
def kv_V (Z : kv_Z) (d : Nat) (M : kv_Me) (pc : Nat) (ls : List (Option Value)) (st : List Value) (h : kv_H) (r : Option Value) (h' : kv_H) : Prop :=
  kv_le h h' ∧ ∀ (n0 k0 : Nat) (p : Program) (e : Env) (s : State) (m : MethodId) (args : Array Value) (below : List Frame) (meth : Method) (c : Code) (H : Heap) (locs : List Loc) (L : Array Slot),
    n0 ≤ h.length → k0 ≤ kv_sl h → kv_fix Z M n0 p s m args meth c → va_P (kv_D Z) vwCl (kv_w Z h) H → va_S (kv_A Z) s.heap H locs → kv_L Z L M.2.2.1 ls →
    W p Z.1 e (kv_R d (h'.length - n0) (kv_sl h' - k0)) s m args below meth c H locs (h.length - n0) (kv_sl h - k0) (MQ below (kv_Q Z r h') args s (h'.length - n0) (kv_sl h' - k0) (kv_A Z)) (F0 m pc L (st.map (kv_r Z)))
/-- the heap is as long as the list says -/
theorem kv_size {Z : kv_Z} {p : Program} {e : Env} {R : Room} {s : State} {m : MethodId} {args : Array Value} {below : List Frame} {meth : Method} {c : Code} {H : Heap} {locs : List Loc} {n0 slots : Nat} {Q : State → Prop} {g : JFrame} {h : kv_H}
    (hn : n0 ≤ h.length) (hs : s.heap.size = kv_b Z + n0) (hP : va_P (kv_D Z) vwCl (kv_w Z h) H) (hS : va_S (kv_A Z) s.heap H locs) (k : H.size = kv_b Z + h.length → W p Z.1 e R s m args below meth c H locs (h.length - n0) slots Q g) : W p Z.1 e R s m args below meth c H locs (h.length - n0) slots Q g := by
  intro T hT X
  refine k ?_ T hT X
  have h1 := X.heapSize
  rw [hT, hs] at h1
  have h2 : kv_b Z + h.length ≤ H.size := by
    cases hh : h with
    | nil =>
      rw [hh] at hn
      have := hS.1
      simp at hn ⊢
      omega
    | cons c l =>
      have hl : h.length - 1 < h.length := by rw [hh]; simp
      have := (hP (h.length - 1) _ (kv_w_get (List.getElem?_eq_getElem hl))).lt
      rw [← hh]
      simp only at this
      omega
  omega
/-- a method from its body -/
theorem kv_M_of {Z : kv_Z} {d : Nat} {M : kv_Me} {av : List Value} {h h' : kv_H} {r : Option Value} {ls : List (Option Value)} (hy : plainName M.1.cls = true) (hl : (lg_sl (av.map (kv_r Z))).length ≤ M.2.2.1) (ha : lv_args 0 (av.map (kv_r Z)) = kv_as Z 0 ls) (k : kv_V Z d M 0 ls [] h r h') : kv_M Z d M av h r h' := by
  refine ⟨k.1, Met.ofW (cc := M.2.1) (maxL := M.2.2.1) (ret := M.2.2.2) hy rfl ?_⟩
  intro p e s m args below meth c s₁ B hml hv
  obtain ⟨rfl, hsz, hP, hK⟩ := hv
  have hL := lv_entry (av.map (kv_r Z)) (n := M.2.2.1) hl
  rw [lg_entry_eq]
  generalize (lg_sl (av.map (kv_r Z)) ++ List.replicate (M.2.2.1 - (lg_sl (av.map (kv_r Z))).length) Slot.unset).toArray = L at hL ⊢
  rw [ha] at hL
  have hb : h.length - h.length = 0 := by omega
  have hc : kv_sl h - kv_sl h = 0 := by omega
  have := k.2 h.length (kv_sl h) p e s m _ below meth c s.heap [] L (Nat.le_refl _) (Nat.le_refl _) ⟨B.exec, B.bytes, B.returns, B.notSynchronized, hml, findClass_of_methodNamed B.named, atoms_spec (ws := kv_ws M) B.pre, hK, hsz, (name_of_methodNamed B.named B.method).1⟩ hP va_S.rf hL
  rw [hb, hc] at this
  exact this
section KV
variable {Z : kv_Z} {d : Nat} {M : kv_Me} {pc pc' : Nat} {ls ls' : List (Option Value)} {st st' : List Value} {h h' : kv_H} {r : Option Value}
/-- rules that touch the stack alone -/
theorem kv_pure (hw : ∀ {p : Program} {e : Env} {R : Room} {s : State} {m : MethodId} {args : Array Value} {below : List Frame} {meth : Method} {c : Code} {H : Heap} {locs : List Loc} {cells slots : Nat} {Q : State → Prop} {L : Array Slot}, p.tables.exec = Jvm.exec → c.code = M.2.1 → W p Z.1 e R s m args below meth c H locs cells slots Q (F0 m pc' L (st'.map (kv_r Z))) → W p Z.1 e R s m args below meth c H locs cells slots Q (F0 m pc L (st.map (kv_r Z))))
    (k : kv_V Z d M pc' ls st' h r h') : kv_V Z d M pc ls st h r h' :=
  ⟨k.1, fun n0 k0 p e s m args below meth c H locs L g1 g2 g3 g4 g5 g6 => hw g3.1 g3.2.1 (k.2 n0 k0 p e s m args below meth c H locs L g1 g2 g3 g4 g5 g6)⟩
/-- rules that read locals -/
theorem kv_load (hw : ∀ {p : Program} {e : Env} {R : Room} {s : State} {m : MethodId} {args : Array Value} {below : List Frame} {meth : Method} {c : Code} {H : Heap} {locs : List Loc} {cells slots : Nat} {Q : State → Prop} {L : Array Slot}, kv_L Z L M.2.2.1 ls → p.tables.exec = Jvm.exec → c.code = M.2.1 → W p Z.1 e R s m args below meth c H locs cells slots Q (F0 m pc' L (st'.map (kv_r Z))) → W p Z.1 e R s m args below meth c H locs cells slots Q (F0 m pc L (st.map (kv_r Z))))
    (k : kv_V Z d M pc' ls st' h r h') : kv_V Z d M pc ls st h r h' :=
  ⟨k.1, fun n0 k0 p e s m args below meth c H locs L g1 g2 g3 g4 g5 g6 => hw g6 g3.1 g3.2.1 (k.2 n0 k0 p e s m args below meth c H locs L g1 g2 g3 g4 g5 g6)⟩
/-- rules that write locals -/
theorem kv_store (hw : ∀ {p : Program} {e : Env} {R : Room} {s : State} {m : MethodId} {args : Array Value} {below : List Frame} {meth : Method} {c : Code} {H : Heap} {locs : List Loc} {cells slots : Nat} {Q : State → Prop} {L : Array Slot}, kv_L Z L M.2.2.1 ls → p.tables.exec = Jvm.exec → c.code = M.2.1 → (∀ L' : Array Slot, kv_L Z L' M.2.2.1 ls' → W p Z.1 e R s m args below meth c H locs cells slots Q (F0 m pc' L' (st'.map (kv_r Z)))) → W p Z.1 e R s m args below meth c H locs cells slots Q (F0 m pc L (st.map (kv_r Z))))
    (k : kv_V Z d M pc' ls' st' h r h') : kv_V Z d M pc ls st h r h' :=
  ⟨k.1, fun n0 k0 p e s m args below meth c H locs L g1 g2 g3 g4 g5 g6 => hw g6 g3.1 g3.2.1 (fun L' g7 => k.2 n0 k0 p e s m args below meth c H locs L' g1 g2 g3 g4 g5 g7)⟩
/-- two ways -/
theorem kv_br {c : Prop} {pa pb : Nat} {sa sb : List Value} (hw : ∀ {p : Program} {e : Env} {R : Room} {s : State} {m : MethodId} {args : Array Value} {below : List Frame} {meth : Method} {cc : Code} {H : Heap} {locs : List Loc} {cells slots : Nat} {Q : State → Prop} {L : Array Slot}, p.tables.exec = Jvm.exec → cc.code = M.2.1 → (c → W p Z.1 e R s m args below meth cc H locs cells slots Q (F0 m pa L (sa.map (kv_r Z)))) → (¬ c → W p Z.1 e R s m args below meth cc H locs cells slots Q (F0 m pb L (sb.map (kv_r Z)))) → W p Z.1 e R s m args below meth cc H locs cells slots Q (F0 m pc L (st.map (kv_r Z))))
    (ka : c → kv_V Z d M pa ls sa h r h') (kb : ¬ c → kv_V Z d M pb ls sb h r h') : kv_V Z d M pc ls st h r h' := by
  refine ⟨?_, fun n0 k0 p e s m args below meth cc H locs L g1 g2 g3 g4 g5 g6 => hw g3.1 g3.2.1 (fun q => (ka q).2 n0 k0 p e s m args below meth cc H locs L g1 g2 g3 g4 g5 g6) (fun q => (kb q).2 n0 k0 p e s m args below meth cc H locs L g1 g2 g3 g4 g5 g6)⟩
  by_cases q : c
  · exact (ka q).1
  · exact (kb q).1
theorem kv_loc (hs : kv_sub ls ls') (k : kv_V Z d M pc ls' st h r h') : kv_V Z d M pc ls st h r h' :=
  ⟨k.1, fun n0 k0 p e s m args below meth c H locs L g1 g2 g3 g4 g5 g6 => k.2 n0 k0 p e s m args below meth c H locs L g1 g2 g3 g4 g5 (kv_L_sub g6 hs)⟩
end KV
end
section
/-! RULES, one an instruction -/
section KR
variable {Z : kv_Z} {d : Nat} {M : kv_Me} {pc : Nat} {ls : List (Option Value)} {st : List Value} {h h' : kv_H} {r : Option Value}
theorem kr_iconst {n : Int} {v : Int32} (hd : decode M.2.1 pc = .ok (.iconst n, 1)) (hv : Int32.ofInt n = v) (k : kv_V Z d M (pc + 1) ls (.int v :: st) h r h') : kv_V Z d M pc ls st h r h' := kv_pure (fun hx hb kk => lv_iconst hx hb hd hv kk) k
theorem kr_bipush {n : Int} {v : Int32} (hd : decode M.2.1 pc = .ok (.bipush n, 2)) (hv : (Int8.ofInt n).toInt32 = v) (k : kv_V Z d M (pc + 2) ls (.int v :: st) h r h') : kv_V Z d M pc ls st h r h' := kv_pure (fun hx hb kk => lv_bipush hx hb hd hv kk) k
theorem kr_sipush {n : Int} {v : Int32} (hd : decode M.2.1 pc = .ok (.sipush n, 3)) (hv : (Int16.ofInt n).toInt32 = v) (k : kv_V Z d M (pc + 3) ls (.int v :: st) h r h') : kv_V Z d M pc ls st h r h' := kv_pure (fun hx hb kk => lv_sipush hx hb hd hv kk) k
theorem kr_lconst {n : Fin 2} {v : Int64} (hd : decode M.2.1 pc = .ok (.lconst n, 1)) (hv : Int64.ofNat (n : Nat) = v) (k : kv_V Z d M (pc + 1) ls (.long v :: st) h r h') : kv_V Z d M pc ls st h r h' := kv_pure (fun hx hb kk => lv_lconst hx hb hd hv kk) k
theorem kr_iload_n {k : Fin 4} {x : Int32} (hd : decode M.2.1 pc = .ok (.iload_n k, 1)) (hl : ls[(k : Nat)]? = some (some (.int x))) (kk : kv_V Z d M (pc + 1) ls (.int x :: st) h r h') : kv_V Z d M pc ls st h r h' := kv_load (fun hL hx hb kk => lv_iload_n hx hb hd rfl (kv_L_at hL hl) kk) kk
theorem kr_iload {i : Nat} {x : Int32} (hd : decode M.2.1 pc = .ok (.iload i, 2)) (hl : ls[i]? = some (some (.int x))) (kk : kv_V Z d M (pc + 2) ls (.int x :: st) h r h') : kv_V Z d M pc ls st h r h' := kv_load (fun hL hx hb kk => lv_iload hx hb hd (kv_L_at hL hl) kk) kk
theorem kr_lload_n {k : Fin 4} {x : Int64} (hd : decode M.2.1 pc = .ok (.lload_n k, 1)) (hl : ls[(k : Nat)]? = some (some (.long x))) (kk : kv_V Z d M (pc + 1) ls (.long x :: st) h r h') : kv_V Z d M pc ls st h r h' := kv_load (fun hL hx hb kk => lv_lload_n hx hb hd rfl (kv_L_at hL hl) kk) kk
theorem kr_lload {i : Nat} {x : Int64} (hd : decode M.2.1 pc = .ok (.lload i, 2)) (hl : ls[i]? = some (some (.long x))) (kk : kv_V Z d M (pc + 2) ls (.long x :: st) h r h') : kv_V Z d M pc ls st h r h' := kv_load (fun hL hx hb kk => lv_lload hx hb hd (kv_L_at hL hl) kk) kk
theorem kr_aload_n {k : Fin 4} {x : Nat} (hd : decode M.2.1 pc = .ok (.aload_n k, 1)) (hl : ls[(k : Nat)]? = some (some (.ref x))) (kk : kv_V Z d M (pc + 1) ls (.ref x :: st) h r h') : kv_V Z d M pc ls st h r h' := kv_load (fun hL hx hb kk => lv_aload_n hx hb hd rfl (kv_L_at hL hl) kk) kk
theorem kr_aload {i : Nat} {x : Nat} (hd : decode M.2.1 pc = .ok (.aload i, 2)) (hl : ls[i]? = some (some (.ref x))) (kk : kv_V Z d M (pc + 2) ls (.ref x :: st) h r h') : kv_V Z d M pc ls st h r h' := kv_load (fun hL hx hb kk => lv_aload hx hb hd (kv_L_at hL hl) kk) kk
theorem kr_aload_x {k : Fin 4} (hd : decode M.2.1 pc = .ok (.aload_n k, 1)) (hl : ls[(k : Nat)]? = some (some (.retAddr 0))) (kk : kv_V Z d M (pc + 1) ls (.retAddr 0 :: st) h r h') : kv_V Z d M pc ls st h r h' := kv_load (fun hL hx hb kk => lv_aload_n hx hb hd rfl (kv_L_at hL hl) kk) kk
theorem kr_aload_y {k : Fin 4} (hd : decode M.2.1 pc = .ok (.aload_n k, 1)) (hl : ls[(k : Nat)]? = some (some (.retAddr 1))) (kk : kv_V Z d M (pc + 1) ls (.retAddr 1 :: st) h r h') : kv_V Z d M pc ls st h r h' := kv_load (fun hL hx hb kk => lv_aload_n hx hb hd rfl (kv_L_at hL hl) kk) kk
theorem kr_istore_n {k : Fin 4} {i : Nat} {x : Int32} {ls' : List (Option Value)} (hd : decode M.2.1 pc = .ok (.istore_n k, 1)) (hi : (k : Nat) = i) (hn : i < M.2.2.1) (hl : kv_s1 ls i (.int x) = ls') (kk : kv_V Z d M (pc + 1) ls' st h r h') : kv_V Z d M pc ls (.int x :: st) h r h' := kv_store (fun hL hx hb kk => lv_istore_n hx hb hd hi hL hn rfl (fun L' h' => kk L' (hl ▸ kv_L_s1 (L := L') h'))) kk
theorem kr_istore {i : Nat} {x : Int32} {ls' : List (Option Value)} (hd : decode M.2.1 pc = .ok (.istore i, 2)) (hn : i < M.2.2.1) (hl : kv_s1 ls i (.int x) = ls') (kk : kv_V Z d M (pc + 2) ls' st h r h') : kv_V Z d M pc ls (.int x :: st) h r h' := kv_store (fun hL hx hb kk => lv_istore hx hb hd hL hn rfl (fun L' h' => kk L' (hl ▸ kv_L_s1 (L := L') h'))) kk
theorem kr_astore_n {k : Fin 4} {i : Nat} {x : Nat} {ls' : List (Option Value)} (hd : decode M.2.1 pc = .ok (.astore_n k, 1)) (hi : (k : Nat) = i) (hn : i < M.2.2.1) (hl : kv_s1 ls i (.ref x) = ls') (kk : kv_V Z d M (pc + 1) ls' st h r h') : kv_V Z d M pc ls (.ref x :: st) h r h' := kv_store (fun hL hx hb kk => lv_astore_n hx hb hd hi hL hn rfl (fun L' h' => kk L' (hl ▸ kv_L_s1 (L := L') h'))) kk
theorem kr_astore {i : Nat} {x : Nat} {ls' : List (Option Value)} (hd : decode M.2.1 pc = .ok (.astore i, 2)) (hn : i < M.2.2.1) (hl : kv_s1 ls i (.ref x) = ls') (kk : kv_V Z d M (pc + 2) ls' st h r h') : kv_V Z d M pc ls (.ref x :: st) h r h' := kv_store (fun hL hx hb kk => lv_astore hx hb hd hL hn rfl (fun L' h' => kk L' (hl ▸ kv_L_s1 (L := L') h'))) kk
theorem kr_lstore_n {k : Fin 4} {i : Nat} {x : Int64} {ls' : List (Option Value)} (hd : decode M.2.1 pc = .ok (.lstore_n k, 1)) (hi : (k : Nat) = i) (hn : i + 1 < M.2.2.1) (hl : kv_s2 ls i (.long x) = ls') (kk : kv_V Z d M (pc + 1) ls' st h r h') : kv_V Z d M pc ls (.long x :: st) h r h' := kv_store (fun hL hx hb kk => lv_lstore_n hx hb hd hi hL hn rfl (fun L' h' => kk L' (hl ▸ kv_L_s2 (L := L') h'))) kk
theorem kr_lstore {i : Nat} {x : Int64} {ls' : List (Option Value)} (hd : decode M.2.1 pc = .ok (.lstore i, 2)) (hn : i + 1 < M.2.2.1) (hl : kv_s2 ls i (.long x) = ls') (kk : kv_V Z d M (pc + 2) ls' st h r h') : kv_V Z d M pc ls (.long x :: st) h r h' := kv_store (fun hL hx hb kk => lv_lstore hx hb hd hL hn rfl (fun L' h' => kk L' (hl ▸ kv_L_s2 (L := L') h'))) kk
theorem kr_iinc {i : Nat} {n : Int} {x v : Int32} {ls' : List (Option Value)} (hd : decode M.2.1 pc = .ok (.iinc i n, 3)) (hl0 : ls[i]? = some (some (.int x))) (hv : x + Int32.ofInt n = v) (hn : i < M.2.2.1) (hl : kv_s1 ls i (.int v) = ls') (kk : kv_V Z d M (pc + 3) ls' st h r h') : kv_V Z d M pc ls st h r h' := kv_store (fun hL hx hb kk => by
  obtain ⟨j, hj⟩ := List.getElem?_of_mem ((kv_as_mem Z ls 0 i _).mpr ⟨i, _, by omega, hl0, rfl⟩)
  exact lv_iinc hx hb hd hL hj hv hn rfl (fun L' h' => kk L' (hl ▸ kv_L_s1 (L := L') h'))) kk
theorem kr_iadd {x y : Int32} (hd : decode M.2.1 pc = .ok (.iadd, 1)) (k : kv_V Z d M (pc + 1) ls (.int (x + y) :: st) h r h') : kv_V Z d M pc ls (.int y :: .int x :: st) h r h' := kv_pure (fun hx hb kk => lv_iadd hx hb hd kk) k
theorem kr_isub {x y : Int32} (hd : decode M.2.1 pc = .ok (.isub, 1)) (k : kv_V Z d M (pc + 1) ls (.int (x - y) :: st) h r h') : kv_V Z d M pc ls (.int y :: .int x :: st) h r h' := kv_pure (fun hx hb kk => lv_isub hx hb hd kk) k
theorem kr_imul {x y : Int32} (hd : decode M.2.1 pc = .ok (.imul, 1)) (k : kv_V Z d M (pc + 1) ls (.int (x * y) :: st) h r h') : kv_V Z d M pc ls (.int y :: .int x :: st) h r h' := kv_pure (fun hx hb kk => lv_imul hx hb hd kk) k
theorem kr_iand {x y : Int32} (hd : decode M.2.1 pc = .ok (.iand, 1)) (k : kv_V Z d M (pc + 1) ls (.int (x &&& y) :: st) h r h') : kv_V Z d M pc ls (.int y :: .int x :: st) h r h' := kv_pure (fun hx hb kk => lv_iand hx hb hd kk) k
theorem kr_ior {x y : Int32} (hd : decode M.2.1 pc = .ok (.ior, 1)) (k : kv_V Z d M (pc + 1) ls (.int (x ||| y) :: st) h r h') : kv_V Z d M pc ls (.int y :: .int x :: st) h r h' := kv_pure (fun hx hb kk => lv_ior hx hb hd kk) k
theorem kr_ixor {x y : Int32} (hd : decode M.2.1 pc = .ok (.ixor, 1)) (k : kv_V Z d M (pc + 1) ls (.int (x ^^^ y) :: st) h r h') : kv_V Z d M pc ls (.int y :: .int x :: st) h r h' := kv_pure (fun hx hb kk => lv_ixor hx hb hd kk) k
theorem kr_ishl {x y : Int32} (hd : decode M.2.1 pc = .ok (.ishl, 1)) (k : kv_V Z d M (pc + 1) ls (.int (x <<< (y &&& 31)) :: st) h r h') : kv_V Z d M pc ls (.int y :: .int x :: st) h r h' := kv_pure (fun hx hb kk => lv_ishl hx hb hd kk) k
theorem kr_ishr {x y : Int32} (hd : decode M.2.1 pc = .ok (.ishr, 1)) (k : kv_V Z d M (pc + 1) ls (.int (x >>> (y &&& 31)) :: st) h r h') : kv_V Z d M pc ls (.int y :: .int x :: st) h r h' := kv_pure (fun hx hb kk => lv_ishr hx hb hd kk) k
theorem kr_idiv {x y : Int32} (hd : decode M.2.1 pc = .ok (.idiv, 1)) (hne : ¬ y = 0) (k : kv_V Z d M (pc + 1) ls (.int (x / y) :: st) h r h') : kv_V Z d M pc ls (.int y :: .int x :: st) h r h' := kv_pure (fun hx hb kk => lv_idiv hx hb hd hne kk) k
theorem kr_irem {x y : Int32} (hd : decode M.2.1 pc = .ok (.irem, 1)) (hne : ¬ y = 0) (k : kv_V Z d M (pc + 1) ls (.int (x - x / y * y) :: st) h r h') : kv_V Z d M pc ls (.int y :: .int x :: st) h r h' := kv_pure (fun hx hb kk => lv_irem hx hb hd hne kk) k
theorem kr_ladd {x y : Int64} (hd : decode M.2.1 pc = .ok (.ladd, 1)) (k : kv_V Z d M (pc + 1) ls (.long (x + y) :: st) h r h') : kv_V Z d M pc ls (.long y :: .long x :: st) h r h' := kv_pure (fun hx hb kk => lv_ladd hx hb hd kk) k
theorem kr_lmul {x y : Int64} (hd : decode M.2.1 pc = .ok (.lmul, 1)) (k : kv_V Z d M (pc + 1) ls (.long (x * y) :: st) h r h') : kv_V Z d M pc ls (.long y :: .long x :: st) h r h' := kv_pure (fun hx hb kk => lv_lmul hx hb hd kk) k
theorem kr_land {x y : Int64} (hd : decode M.2.1 pc = .ok (.land, 1)) (k : kv_V Z d M (pc + 1) ls (.long (x &&& y) :: st) h r h') : kv_V Z d M pc ls (.long y :: .long x :: st) h r h' := kv_pure (fun hx hb kk => lv_land hx hb hd kk) k
theorem kr_iushr {x y : Int32} (hd : decode M.2.1 pc = .ok (.iushr, 1)) (k : kv_V Z d M (pc + 1) ls (.int (x.toUInt32 >>> (y.toUInt32 &&& Int32.toUInt32 31)).toInt32 :: st) h r h') : kv_V Z d M pc ls (.int y :: .int x :: st) h r h' := kv_pure (fun hx hb kk => lv_iushr hx hb hd rfl kk) k
theorem kr_i2l {x : Int32} (hd : decode M.2.1 pc = .ok (.i2l, 1)) (k : kv_V Z d M (pc + 1) ls (.long (x.toInt64) :: st) h r h') : kv_V Z d M pc ls (.int x :: st) h r h' := kv_pure (fun hx hb kk => lv_i2l hx hb hd rfl kk) k
theorem kr_l2i {x : Int64} (hd : decode M.2.1 pc = .ok (.l2i, 1)) (k : kv_V Z d M (pc + 1) ls (.int (x.toInt32) :: st) h r h') : kv_V Z d M pc ls (.long x :: st) h r h' := kv_pure (fun hx hb kk => lv_l2i hx hb hd rfl kk) k
theorem kr_i2c {x : Int32} (hd : decode M.2.1 pc = .ok (.i2c, 1)) (k : kv_V Z d M (pc + 1) ls (.int ((x.toUInt32 % 65536).toInt32) :: st) h r h') : kv_V Z d M pc ls (.int x :: st) h r h' := kv_pure (fun hx hb kk => lv_i2c hx hb hd rfl kk) k
theorem kr_i2b {x : Int32} (hd : decode M.2.1 pc = .ok (.i2b, 1)) (k : kv_V Z d M (pc + 1) ls (.int (x.toInt8.toInt32) :: st) h r h') : kv_V Z d M pc ls (.int x :: st) h r h' := kv_pure (fun hx hb kk => lv_i2b hx hb hd rfl kk) k
theorem kr_lcmp {x y : Int64} (hd : decode M.2.1 pc = .ok (.lcmp, 1)) (k : kv_V Z d M (pc + 1) ls (.int (lg_cmp x y) :: st) h r h') : kv_V Z d M pc ls (.long y :: .long x :: st) h r h' := kv_pure (fun hx hb kk => W.lcmp hx hb hd kk) k
theorem kr_dup {v : Value} (hd : decode M.2.1 pc = .ok (.dup, 1)) (hv : v.category = 1) (k : kv_V Z d M (pc + 1) ls (v :: v :: st) h r h') : kv_V Z d M pc ls (v :: st) h r h' := kv_pure (fun hx hb kk => lv_dup hx hb hd ((kv_r_cat Z v).trans hv) kk) k
theorem kr_dup2 {v w : Value} (hd : decode M.2.1 pc = .ok (.dup2, 1)) (hv : v.category = 1) (hw : w.category = 1) (k : kv_V Z d M (pc + 1) ls (v :: w :: v :: w :: st) h r h') : kv_V Z d M pc ls (v :: w :: st) h r h' := kv_pure (fun hx hb kk => lv_dup2_11 hx hb hd ((kv_r_cat Z v).trans hv) ((kv_r_cat Z w).trans hw) kk) k
theorem kr_pop {v : Value} (hd : decode M.2.1 pc = .ok (.pop, 1)) (hv : v.category = 1) (k : kv_V Z d M (pc + 1) ls st h r h') : kv_V Z d M pc ls (v :: st) h r h' := kv_pure (fun hx hb kk => lv_pop hx hb hd ((kv_r_cat Z v).trans hv) kk) k
theorem kr_if_eq {x : Int32} {off : Int} {tgt : Nat} (hd : decode M.2.1 pc = .ok (.ifCond .eq off, 3)) (ht : (pc : Int) + off = (tgt : Int)) (ka : x = 0 → kv_V Z d M tgt ls st h r h') (kb : ¬ (x = 0) → kv_V Z d M (pc + 3) ls st h r h') : kv_V Z d M pc ls (.int x :: st) h r h' := kv_br (fun hx hb ka kb => lv_if_eq hx hb hd ht ka kb) ka kb
theorem kr_icmp_eq {x y : Int32} {off : Int} {tgt : Nat} (hd : decode M.2.1 pc = .ok (.if_icmp .eq off, 3)) (ht : (pc : Int) + off = (tgt : Int)) (ka : x = y → kv_V Z d M tgt ls st h r h') (kb : ¬ (x = y) → kv_V Z d M (pc + 3) ls st h r h') : kv_V Z d M pc ls (.int y :: .int x :: st) h r h' := kv_br (fun hx hb ka kb => lv_icmp_eq hx hb hd ht ka kb) ka kb
theorem kr_if_lt {x : Int32} {off : Int} {tgt : Nat} (hd : decode M.2.1 pc = .ok (.ifCond .lt off, 3)) (ht : (pc : Int) + off = (tgt : Int)) (ka : x < 0 → kv_V Z d M tgt ls st h r h') (kb : ¬ (x < 0) → kv_V Z d M (pc + 3) ls st h r h') : kv_V Z d M pc ls (.int x :: st) h r h' := kv_br (fun hx hb ka kb => lv_if_lt hx hb hd ht ka kb) ka kb
theorem kr_icmp_lt {x y : Int32} {off : Int} {tgt : Nat} (hd : decode M.2.1 pc = .ok (.if_icmp .lt off, 3)) (ht : (pc : Int) + off = (tgt : Int)) (ka : x < y → kv_V Z d M tgt ls st h r h') (kb : ¬ (x < y) → kv_V Z d M (pc + 3) ls st h r h') : kv_V Z d M pc ls (.int y :: .int x :: st) h r h' := kv_br (fun hx hb ka kb => lv_icmp_lt hx hb hd ht ka kb) ka kb
theorem kr_if_ge {x : Int32} {off : Int} {tgt : Nat} (hd : decode M.2.1 pc = .ok (.ifCond .ge off, 3)) (ht : (pc : Int) + off = (tgt : Int)) (ka : 0 ≤ x → kv_V Z d M tgt ls st h r h') (kb : ¬ (0 ≤ x) → kv_V Z d M (pc + 3) ls st h r h') : kv_V Z d M pc ls (.int x :: st) h r h' := kv_br (fun hx hb ka kb => lv_if_ge hx hb hd ht ka kb) ka kb
theorem kr_icmp_ge {x y : Int32} {off : Int} {tgt : Nat} (hd : decode M.2.1 pc = .ok (.if_icmp .ge off, 3)) (ht : (pc : Int) + off = (tgt : Int)) (ka : y ≤ x → kv_V Z d M tgt ls st h r h') (kb : ¬ (y ≤ x) → kv_V Z d M (pc + 3) ls st h r h') : kv_V Z d M pc ls (.int y :: .int x :: st) h r h' := kv_br (fun hx hb ka kb => lv_icmp_ge hx hb hd ht ka kb) ka kb
theorem kr_if_gt {x : Int32} {off : Int} {tgt : Nat} (hd : decode M.2.1 pc = .ok (.ifCond .gt off, 3)) (ht : (pc : Int) + off = (tgt : Int)) (ka : 0 < x → kv_V Z d M tgt ls st h r h') (kb : ¬ (0 < x) → kv_V Z d M (pc + 3) ls st h r h') : kv_V Z d M pc ls (.int x :: st) h r h' := kv_br (fun hx hb ka kb => lv_if_gt hx hb hd ht ka kb) ka kb
theorem kr_icmp_gt {x y : Int32} {off : Int} {tgt : Nat} (hd : decode M.2.1 pc = .ok (.if_icmp .gt off, 3)) (ht : (pc : Int) + off = (tgt : Int)) (ka : y < x → kv_V Z d M tgt ls st h r h') (kb : ¬ (y < x) → kv_V Z d M (pc + 3) ls st h r h') : kv_V Z d M pc ls (.int y :: .int x :: st) h r h' := kv_br (fun hx hb ka kb => lv_icmp_gt hx hb hd ht ka kb) ka kb
theorem kr_if_le {x : Int32} {off : Int} {tgt : Nat} (hd : decode M.2.1 pc = .ok (.ifCond .le off, 3)) (ht : (pc : Int) + off = (tgt : Int)) (ka : x ≤ 0 → kv_V Z d M tgt ls st h r h') (kb : ¬ (x ≤ 0) → kv_V Z d M (pc + 3) ls st h r h') : kv_V Z d M pc ls (.int x :: st) h r h' := kv_br (fun hx hb ka kb => lv_if_le hx hb hd ht ka kb) ka kb
theorem kr_icmp_le {x y : Int32} {off : Int} {tgt : Nat} (hd : decode M.2.1 pc = .ok (.if_icmp .le off, 3)) (ht : (pc : Int) + off = (tgt : Int)) (ka : x ≤ y → kv_V Z d M tgt ls st h r h') (kb : ¬ (x ≤ y) → kv_V Z d M (pc + 3) ls st h r h') : kv_V Z d M pc ls (.int y :: .int x :: st) h r h' := kv_br (fun hx hb ka kb => lv_icmp_le hx hb hd ht ka kb) ka kb
theorem kr_if_ne {x : Int32} {off : Int} {tgt : Nat} (hd : decode M.2.1 pc = .ok (.ifCond .ne off, 3)) (ht : (pc : Int) + off = (tgt : Int)) (ka : x = 0 → kv_V Z d M (pc + 3) ls st h r h') (kb : ¬ x = 0 → kv_V Z d M tgt ls st h r h') : kv_V Z d M pc ls (.int x :: st) h r h' := kv_br (fun hx hb ka kb => lv_if_ne hx hb hd ht kb ka) ka kb
theorem kr_icmp_ne {x y : Int32} {off : Int} {tgt : Nat} (hd : decode M.2.1 pc = .ok (.if_icmp .ne off, 3)) (ht : (pc : Int) + off = (tgt : Int)) (ka : x = y → kv_V Z d M (pc + 3) ls st h r h') (kb : ¬ x = y → kv_V Z d M tgt ls st h r h') : kv_V Z d M pc ls (.int y :: .int x :: st) h r h' := kv_br (fun hx hb ka kb => lv_icmp_ne hx hb hd ht kb ka) ka kb
theorem kr_goto {off : Int} {tgt : Nat} (hd : decode M.2.1 pc = .ok (.goto off, 3)) (ht : (pc : Int) + off = (tgt : Int)) (k : kv_V Z d M tgt ls st h r h') : kv_V Z d M pc ls st h r h' := kv_pure (fun hx hb kk => lv_goto hx hb hd ht kk) k
theorem kr_tableIn {dflt lo hi : Int} {offs : Array Int} {len : Nat} {x : Int32} {off : Int} {tgt : Nat} (hd : decode M.2.1 pc = .ok (.tableswitch dflt lo hi offs, len)) (h1 : ¬ x.toInt < lo) (h2 : ¬ hi < x.toInt) (ho : offs[(x.toInt - lo).toNat]? = some off) (ht : (pc : Int) + off = (tgt : Int)) (k : kv_V Z d M tgt ls st h r h') : kv_V Z d M pc ls (.int x :: st) h r h' := kv_pure (fun hx hb kk => lv_tableIn hx hb hd h1 h2 ho ht kk) k
theorem kr_tableOut {dflt lo hi : Int} {offs : Array Int} {len : Nat} {x : Int32} {tgt : Nat} (hd : decode M.2.1 pc = .ok (.tableswitch dflt lo hi offs, len)) (h1 : x.toInt < lo ∨ hi < x.toInt) (ht : (pc : Int) + dflt = (tgt : Int)) (k : kv_V Z d M tgt ls st h r h') : kv_V Z d M pc ls (.int x :: st) h r h' := kv_pure (fun hx hb kk => lv_tableOut hx hb hd h1 ht kk) k
theorem kr_lookup {dflt : Int} {ps : Array (Int × Int)} {len : Nat} {x : Int32} {off : Int} {tgt : Nat} (hd : decode M.2.1 pc = .ok (.lookupswitch dflt ps, len)) (hp : (ps.toList.zip (ps.toList.drop 1)).all (fun (a, next) => a.1 < next.1) = true) (ho : Op.lookupswitch.offset ps.toList dflt x.toInt = off) (ht : (pc : Int) + off = (tgt : Int)) (k : kv_V Z d M tgt ls st h r h') : kv_V Z d M pc ls (.int x :: st) h r h' := kv_pure (fun hx hb kk => lv_lookup hx hb hd hp ho ht kk) k
theorem kr_iret {v : Int32} (hr : M.2.2.2 = some .int) (hd : decode M.2.1 pc = .ok (.ireturn, 1)) : kv_V Z d M pc ls [.int v] h (some (.int v)) h := by
  refine ⟨kv_le.rf h, fun n0 k0 p e s m args below meth c H locs L g1 g2 g3 g4 g5 g6 => ?_⟩
  obtain ⟨hx, hb, hrt, hlk, hml, hown, hts, hK, hsz, hnm⟩ := g3
  exact W.iret hx hb (hrt.trans hr) (fun t ht hW => ⟨rfl, by rw [ht]; exact g4, g5.F ht⟩) g5.2.2 hd hlk
theorem kr_zret {v : Int32} (hr : M.2.2.2 = some .boolean) (hn : narrow .boolean (.int v) = .int v) (hd : decode M.2.1 pc = .ok (.ireturn, 1)) : kv_V Z d M pc ls [.int v] h (some (.int v)) h := by
  refine ⟨kv_le.rf h, fun n0 k0 p e s m args below meth c H locs L g1 g2 g3 g4 g5 g6 => ?_⟩
  obtain ⟨hx, hb, hrt, hlk, hml, hown, hts, hK, hsz, hnm⟩ := g3
  exact W.zret hx hb (hrt.trans hr) hn (fun t ht hW => ⟨rfl, by rw [ht]; exact g4, g5.F ht⟩) g5.2.2 hd hlk
theorem kr_bret {v : Int32} (hr : M.2.2.2 = some .byte) (hn : narrow .byte (.int v) = .int v) (hd : decode M.2.1 pc = .ok (.ireturn, 1)) : kv_V Z d M pc ls [.int v] h (some (.int v)) h := by
  refine ⟨kv_le.rf h, fun n0 k0 p e s m args below meth c H locs L g1 g2 g3 g4 g5 g6 => ?_⟩
  obtain ⟨hx, hb, hrt, hlk, hml, hown, hts, hK, hsz, hnm⟩ := g3
  exact W.zret hx hb (hrt.trans hr) hn (fun t ht hW => ⟨rfl, by rw [ht]; exact g4, g5.F ht⟩) g5.2.2 hd hlk
theorem kr_lret {v : Int64} (hr : M.2.2.2 = some .long) (hd : decode M.2.1 pc = .ok (.lreturn, 1)) : kv_V Z d M pc ls [.long v] h (some (.long v)) h := by
  refine ⟨kv_le.rf h, fun n0 k0 p e s m args below meth c H locs L g1 g2 g3 g4 g5 g6 => ?_⟩
  obtain ⟨hx, hb, hrt, hlk, hml, hown, hts, hK, hsz, hnm⟩ := g3
  exact W.lret hx hb (hrt.trans hr) (fun t ht hW => ⟨rfl, by rw [ht]; exact g4, g5.F ht⟩) g5.2.2 hd hlk
theorem kr_vret (hr : M.2.2.2 = none) (hd : decode M.2.1 pc = .ok (.return_, 1)) : kv_V Z d M pc ls [] h none h := by
  refine ⟨kv_le.rf h, fun n0 k0 p e s m args below meth c H locs L g1 g2 g3 g4 g5 g6 => ?_⟩
  obtain ⟨hx, hb, hrt, hlk, hml, hown, hts, hK, hsz, hnm⟩ := g3
  exact W.vret hx hb (hrt.trans hr) (fun t ht hW => ⟨rfl, by rw [ht]; exact g4, g5.F ht⟩) g5.2.2 hd hlk
theorem kr_aret {a : Nat} {nm : String} (hr : M.2.2.2 = some (.object nm)) (hd : decode M.2.1 pc = .ok (.areturn, 1)) : kv_V Z d M pc ls [.ref a] h (some (.ref a)) h := by
  refine ⟨kv_le.rf h, fun n0 k0 p e s m args below meth c H locs L g1 g2 g3 g4 g5 g6 => ?_⟩
  obtain ⟨hx, hb, hrt, hlk, hml, hown, hts, hK, hsz, hnm⟩ := g3
  exact W.aret hx hb (hrt.trans hr) (Or.inl ⟨_, rfl⟩) (Or.inr ⟨_, rfl⟩) (fun t ht hW => ⟨rfl, by rw [ht]; exact g4, g5.F ht⟩) g5.2.2 hd hlk
end KR
end
section
/-! RULES of the heap and of calls -/
theorem kv_up {M : kv_Me} {w : Cond} (h : w ∈ kv_W) : w ∈ kv_ws M := List.mem_cons_of_mem _ h
/-- an int of a row -/
def kv_g (xs : List Int32) (i : Int32) : Option Int32 := if i < 0 then none else xs[i.toNatClampNeg]?
theorem kv_g_in {xs : List Int32} {i v : Int32} (h : kv_g xs i = some v) : vp_in i xs.length ∧ xs.getD i.toNatClampNeg 0 = v := by
  unfold kv_g at h
  by_cases hi : i < 0
  · rw [if_pos hi] at h; cases h
  · rw [if_neg hi] at h
    have hl := (List.getElem?_eq_some_iff.mp h).1
    exact ⟨fun z => z.elim hi (fun z => absurd hl (by omega)), by rw [List.getD_eq_getElem?_getD, h]; rfl⟩
/-- an int put into a row -/
def kv_p (xs : List Int32) (i x : Int32) : Option (List Int32) := if i < 0 then none else if i.toNatClampNeg < xs.length then some (xs.set i.toNatClampNeg x) else none
theorem kv_p_in {xs ys : List Int32} {i x : Int32} (h : kv_p xs i x = some ys) : vp_in i xs.length ∧ ys = xs.set i.toNatClampNeg x := by
  unfold kv_p at h
  by_cases hi : i < 0
  · rw [if_pos hi] at h; cases h
  · rw [if_neg hi] at h
    by_cases hl : i.toNatClampNeg < xs.length
    · rw [if_pos hl] at h
      cases h
      exact ⟨fun z => z.elim hi (fun z => absurd hl (by omega)), rfl⟩
    · rw [if_neg hl] at h; cases h
theorem kv_upd {xs : List Int32} {k : Nat} {x : Int32} (hk : k < xs.length) : upd (fun j => xs.getD j 0) k x = fun j => (xs.set k x).getD j 0 := by
  funext j
  by_cases hj : j = k
  · subst hj
    simp [upd, List.getD_eq_getElem?_getD, hk]
  · simp [upd, hj, List.getD_eq_getElem?_getD, List.getElem?_set_ne (Ne.symm hj)]
section KH
variable {Z : kv_Z} {d : Nat} {M : kv_Me} {pc : Nat} {ls : List (Option Value)} {st stk : List Value} {h h' h2 : kv_H} {r v : Option Value}
theorem kr_getf {a ci k index N : Nat} {C : String} {T : u_T} {fs : List Value} {w : Value} (ha : h[a]? = some (.inr (.inr (ci, fs)))) (hv : fs[k]? = some w) (hc : vwCl[ci]? = some (C, T, N)) (hk : k < N) (hin : ∀ w ∈ u_ws C T N, w ∈ kv_W) (hl : Cond.fieldLink M.1.cls index (T k).1 (T k).2.1 (T k).2.2.1 ∈ kv_W) (hd : decode M.2.1 pc = .ok (.getfield index, 3)) (kk : kv_V Z d M (pc + 3) ls (w :: st) h r h') : kv_V Z d M pc ls (.ref a :: st) h r h' := by
  refine ⟨kk.1, fun n0 k0 p e s m args below meth c H locs L g1 g2 g3 g4 g5 g6 => ?_⟩
  obtain ⟨hx, hb, hrt, hlk, hml, hown, hts, hK, hsz, hnm⟩ := id g3
  exact va_get hx hb hts (fun w hw => kv_up (hin w hw)) hown hK.1 g4 a (kv_w_get ha) hc k hk (hts _ (kv_up hl)) (fun _ h9 => h9) (v := kv_r Z w) (by rw [List.getElem?_map, hv]; rfl) hd (kk.2 n0 k0 p e s m args below meth c H locs L g1 g2 g3 g4 g5 g6)
theorem kr_getfS {a ci k index N : Nat} {C ref : String} {T : u_T} {fs : List Value} {w : Value} (ha : h[a]? = some (.inr (.inr (ci, fs)))) (hv : fs[k]? = some w) (hc : vwCl[ci]? = some (C, T, N)) (hk : k < N) (hin : ∀ w ∈ u_ws C T N, w ∈ kv_W) (hl : Cond.fieldLink M.1.cls index ref (T k).2.1 (T k).2.2.1 ∈ kv_W) (hsm : Cond.sameField ref (T k).1 (T k).2.1 (T k).2.2.1 ∈ kv_W) (hd : decode M.2.1 pc = .ok (.getfield index, 3)) (kk : kv_V Z d M (pc + 3) ls (w :: st) h r h') : kv_V Z d M pc ls (.ref a :: st) h r h' := by
  refine ⟨kk.1, fun n0 k0 p e s m args below meth c H locs L g1 g2 g3 g4 g5 g6 => ?_⟩
  obtain ⟨hx, hb, hrt, hlk, hml, hown, hts, hK, hsz, hnm⟩ := id g3
  exact va_get hx hb hts (fun w hw => kv_up (hin w hw)) hown hK.1 g4 a (kv_w_get ha) hc k hk (hts _ (kv_up hl)) (fun x h9 => u_same (hts _ (kv_up hsm)) x h9) (v := kv_r Z w) (by rw [List.getElem?_map, hv]; rfl) hd (kk.2 n0 k0 p e s m args below meth c H locs L g1 g2 g3 g4 g5 g6)
theorem kv_setP {a ci k : Nat} {fs : List Value} {w : Value} {H1 : Heap} (g : va_P (kv_D Z) vwCl ((kv_w Z h).set a (kv_b Z + a, .inr (ci, (fs.map (kv_r Z)).set k (kv_r Z w)))) H1) : va_P (kv_D Z) vwCl (kv_w Z (h.set a (.inr (.inr (ci, fs.set k w))))) H1 := by
  have e : (kv_b Z + a, (.inr (ci, (fs.map (kv_r Z)).set k (kv_r Z w)) : va_E)) = (kv_b Z + a, kv_cv Z (.inr (.inr (ci, fs.set k w)))) := by
    show _ = (kv_b Z + a, (.inr (ci, (fs.set k w).map (kv_r Z)) : va_E))
    rw [List.map_set]
  rw [e, kv_w_set] at g
  exact g
theorem kr_putf {a ci k index N : Nat} {C : String} {T : u_T} {fs : List Value} {w : Value} (ty0 : Nat → FieldType) (hty : ∀ k, k < N → parseFieldDescriptor (T k).2.2.1 = some (ty0 k)) (hnn : ∀ a, a < N → ∀ b, b < N → a ≠ b → (T a).2.1 ≠ (T b).2.1) (ha : h[a]? = some (.inr (.inr (ci, fs)))) (hc : vwCl[ci]? = some (C, T, N)) (hk : k < N) (hin : ∀ w ∈ u_ws C T N, w ∈ kv_W) (hl : Cond.fieldLink M.1.cls index (T k).1 (T k).2.1 (T k).2.2.1 ∈ kv_W) (hfin : (T k).2.2.2 = false) (hnr : narrow (ty0 k) (kv_r Z w) = kv_r Z w) (hft : fits (ty0 k) (kv_r Z w) = true) (hlen : k < fs.length) (hd : decode M.2.1 pc = .ok (.putfield index, 3)) (kk : kv_V Z d M (pc + 3) ls st (h.set a (.inr (.inr (ci, fs.set k w)))) r h') : kv_V Z d M pc ls (w :: .ref a :: st) h r h' := by
  have el : (h.set a (.inr (.inr (ci, fs.set k w)))).length = h.length := List.length_set
  have es : kv_sl (h.set a (.inr (.inr (ci, fs.set k w)))) = kv_sl h := kv_sl_set h a _ _ ha (by simp [kv_cs])
  have k1 := kk.1
  unfold kv_le at k1
  rw [el, es] at k1
  refine ⟨k1, fun n0 k0 p e s m args below meth c H locs L g1 g2 g3 g4 g5 g6 => ?_⟩
  obtain ⟨hx, hb, hrt, hlk, hml, hown, hts, hK, hsz, hnm⟩ := id g3
  refine va_put hx hb hts (fun w hw => kv_up (hin w hw)) ty0 hty hnn hown hK.1 g4 (kv_w_D Z h) g5 a (kv_w_get ha) hc k hk (hts _ (kv_up hl)) (fun _ h9 => h9) hfin (v := kv_r Z w) (hty k hk) hnr hft (by simpa using hlen) hd (fun H1 locs1 q1 q2 q3 => ?_)
  have := kk.2 n0 k0 p e s m args below meth c H1 locs1 L (by rw [el]; exact g1) (by rw [es]; exact g2) g3 (kv_setP q1) q3 g6
  rw [el, es] at this
  exact this
theorem kr_putfF {a ci k index N : Nat} {C : String} {T : u_T} {fs : List Value} {w : Value} (ty0 : Nat → FieldType) (hty : ∀ k, k < N → parseFieldDescriptor (T k).2.2.1 = some (ty0 k)) (hnn : ∀ a, a < N → ∀ b, b < N → a ≠ b → (T a).2.1 ≠ (T b).2.1) (ha : h[a]? = some (.inr (.inr (ci, fs)))) (hc : vwCl[ci]? = some (C, T, N)) (hk : k < N) (hin : ∀ w ∈ u_ws C T N, w ∈ kv_W) (hl : Cond.fieldLink M.1.cls index (T k).1 (T k).2.1 (T k).2.2.1 ∈ kv_W) (hfin : (T k).2.2.2 = true) (hini : M.1.name = "<init>") (hdc : (T k).1 = M.1.cls) (hnr : narrow (ty0 k) (kv_r Z w) = kv_r Z w) (hft : fits (ty0 k) (kv_r Z w) = true) (hlen : k < fs.length) (hd : decode M.2.1 pc = .ok (.putfield index, 3)) (kk : kv_V Z d M (pc + 3) ls st (h.set a (.inr (.inr (ci, fs.set k w)))) r h') : kv_V Z d M pc ls (w :: .ref a :: st) h r h' := by
  have el : (h.set a (.inr (.inr (ci, fs.set k w)))).length = h.length := List.length_set
  have es : kv_sl (h.set a (.inr (.inr (ci, fs.set k w)))) = kv_sl h := kv_sl_set h a _ _ ha (by simp [kv_cs])
  have k1 := kk.1
  unfold kv_le at k1
  rw [el, es] at k1
  refine ⟨k1, fun n0 k0 p e s m args below meth c H locs L g1 g2 g3 g4 g5 g6 => ?_⟩
  obtain ⟨hx, hb, hrt, hlk, hml, hown, hts, hK, hsz, hnm⟩ := id g3
  refine va_putF hx hb hts (fun w hw => kv_up (hin w hw)) ty0 hty hnn hown hK.1 g4 (kv_w_D Z h) g5 a (kv_w_get ha) hc k hk (hts _ (kv_up hl)) (fun _ h9 => h9) hfin (hnm.trans hini) hdc (v := kv_r Z w) (hty k hk) hnr hft (by simpa using hlen) hd (fun H1 locs1 q1 q2 q3 => ?_)
  have := kk.2 n0 k0 p e s m args below meth c H1 locs1 L (by rw [el]; exact g1) (by rw [es]; exact g2) g3 (kv_setP q1) q3 g6
  rw [el, es] at this
  exact this
theorem kr_iald {a : Nat} {xs : List Int32} {i x : Int32} (ha : h[a]? = some (.inl xs)) (hg : kv_g xs i = some x) (hd : decode M.2.1 pc = .ok (.iaload, 1)) (kk : kv_V Z d M (pc + 1) ls (.int x :: st) h r h') : kv_V Z d M pc ls (.int i :: .ref a :: st) h r h' := by
  obtain ⟨hi, hx0⟩ := kv_g_in hg
  refine ⟨kk.1, fun n0 k0 p e s m args below meth c H locs L g1 g2 g3 g4 g5 g6 => ?_⟩
  obtain ⟨hx, hb, hrt, hlk, hml, hown, hts, hK, hsz, hnm⟩ := id g3
  refine va_iald hx hb hK.1 g4 a 0 (kv_w_get ha) rfl hi hd ?_
  have := kk.2 n0 k0 p e s m args below meth c H locs L g1 g2 g3 g4 g5 g6
  rw [← hx0] at this
  exact this
theorem kr_iast {a : Nat} {xs ys : List Int32} {i x : Int32} (ha : h[a]? = some (.inl xs)) (hg : kv_p xs i x = some ys) (hd : decode M.2.1 pc = .ok (.iastore, 1)) (kk : kv_V Z d M (pc + 1) ls st (h.set a (.inl ys)) r h') : kv_V Z d M pc ls (.int x :: .int i :: .ref a :: st) h r h' := by
  obtain ⟨hi, hy⟩ := kv_p_in hg
  have hlt : i.toNatClampNeg < xs.length := Nat.not_le.mp fun q => hi (Or.inr q)
  have ely : ys.length = xs.length := by rw [hy, List.length_set]
  have el : (h.set a (.inl ys)).length = h.length := List.length_set
  have es : kv_sl (h.set a (.inl ys)) = kv_sl h := kv_sl_set h a _ _ ha (by simp [kv_cs, ely])
  have k1 := kk.1
  unfold kv_le at k1
  rw [el, es] at k1
  refine ⟨k1, fun n0 k0 p e s m args below meth c H locs L g1 g2 g3 g4 g5 g6 => ?_⟩
  obtain ⟨hx, hb, hrt, hlk, hml, hown, hts, hK, hsz, hnm⟩ := id g3
  refine va_iast hx hb hK.1 g4 (kv_w_D Z h) g5 a 0 (kv_w_get ha) rfl hi hd (fun H1 locs1 q1 q2 q3 => ?_)
  have q1 : va_P (kv_D Z) vwCl (kv_w Z (h.set a (.inl ys))) H1 := by
    rw [kv_upd hlt] at q1
    have e2 : (kv_b Z + a, (.inl (kv_I Z, xs.length, .inl (fun j => (xs.set i.toNatClampNeg x).getD j 0)) : va_E)) = (kv_b Z + a, kv_cv Z (.inl ys)) := by
      show _ = (kv_b Z + a, (.inl (kv_I Z, ys.length, .inl (fun j => ys.getD j 0)) : va_E))
      rw [ely, hy]
    rw [e2, kv_w_set] at q1
    exact q1
  have := kk.2 n0 k0 p e s m args below meth c H1 locs1 L (by rw [el]; exact g1) (by rw [es]; exact g2) g3 q1 q3 g6
  rw [el, es] at this
  exact this
theorem kr_alen {a : Nat} {xs : List Int32} (ha : h[a]? = some (.inl xs)) (hd : decode M.2.1 pc = .ok (.arraylength, 1)) (kk : kv_V Z d M (pc + 1) ls (.int (nI xs.length) :: st) h r h') : kv_V Z d M pc ls (.ref a :: st) h r h' := by
  refine ⟨kk.1, fun n0 k0 p e s m args below meth c H locs L g1 g2 g3 g4 g5 g6 => ?_⟩
  obtain ⟨hx, hb, hrt, hlk, hml, hown, hts, hK, hsz, hnm⟩ := id g3
  exact va_alen hx hb hK.1 g4 a 0 (kv_w_get ha) rfl rfl hd (kk.2 n0 k0 p e s m args below meth c H locs L g1 g2 g3 g4 g5 g6)
theorem kr_alenR {a : Nat} {xs : List (Option Nat)} (ha : h[a]? = some (.inr (.inl xs))) (hd : decode M.2.1 pc = .ok (.arraylength, 1)) (kk : kv_V Z d M (pc + 1) ls (.int (nI xs.length) :: st) h r h') : kv_V Z d M pc ls (.ref a :: st) h r h' := by
  refine ⟨kk.1, fun n0 k0 p e s m args below meth c H locs L g1 g2 g3 g4 g5 g6 => ?_⟩
  obtain ⟨hx, hb, hrt, hlk, hml, hown, hts, hK, hsz, hnm⟩ := id g3
  exact va_alen hx hb hK.1 g4 a 1 (kv_w_get ha) rfl rfl hd (kk.2 n0 k0 p e s m args below meth c H locs L g1 g2 g3 g4 g5 g6)
/-- a trick of a row -/
def kv_q (xs : List (Option Nat)) (i : Int32) : Option Nat := if i < 0 then none else (xs[i.toNatClampNeg]?).bind id
theorem kv_q_in {xs : List (Option Nat)} {i : Int32} {x : Nat} (h : kv_q xs i = some x) : vp_in i xs.length ∧ xs.getD i.toNatClampNeg none = some x := by
  unfold kv_q at h
  by_cases hi : i < 0
  · rw [if_pos hi] at h; cases h
  · rw [if_neg hi] at h
    cases hc : xs[i.toNatClampNeg]? with
    | none => rw [hc] at h; cases h
    | some o =>
      rw [hc] at h
      have hl := (List.getElem?_eq_some_iff.mp hc).1
      exact ⟨fun z => z.elim hi (fun z => absurd hl (by omega)), by rw [List.getD_eq_getElem?_getD, hc]; exact h⟩
theorem kr_aald {a x : Nat} {xs : List (Option Nat)} {i : Int32} (ha : h[a]? = some (.inr (.inl xs))) (hg : kv_q xs i = some x) (hd : decode M.2.1 pc = .ok (.aaload, 1)) (kk : kv_V Z d M (pc + 1) ls (.ref x :: st) h r h') : kv_V Z d M pc ls (.int i :: .ref a :: st) h r h' := by
  obtain ⟨hi, hx0⟩ := kv_q_in hg
  refine ⟨kk.1, fun n0 k0 p e s m args below meth c H locs L g1 g2 g3 g4 g5 g6 => ?_⟩
  obtain ⟨hx, hb, hrt, hlk, hml, hown, hts, hK, hsz, hnm⟩ := id g3
  refine va_aldq hx hb hK.1 g4 a 1 (kv_w_get ha) rfl hi hd ?_
  have := kk.2 n0 k0 p e s m args below meth c H locs L g1 g2 g3 g4 g5 g6
  simp only [hx0]
  exact this
end KH
end
section
/-! CALLS, NEW CELLS, CONSTANTS -/
/-- what a callee must be -/
def kv_ok (M : kv_Me) (n : Nat) : Prop := (M.1.cls ≠ "java/lang/invoke/MethodHandle" ∧ M.1.cls ≠ "java/lang/invoke/VarHandle" ∧ (parseMethodDescriptor M.1.desc).map (fun d => d.parameters.length) = some n) ∧ kv_code M ∈ kv_W ∧ Cond.initialized M.1.cls ∈ kv_W ∧ M.2.2.1 ≤ 45
theorem kv_gin {M M' : kv_Me} (h : kv_code M' ∈ kv_W) : GoodIn (kv_ws M) (kv_ws M') := by
  intro w hw
  have hw' : w ∈ kv_W := by
    rcases List.mem_cons.mp hw with e | e
    · rw [e]; exact h
    · exact e
  exact ⟨kv_up hw', good_of_word (kv_W_good hw').2⟩
theorem kv_blind (Z : kv_Z) (av : List Value) (h : kv_H) : FrameBlind (kv_P Z av h) := by
  intro a U g mk q
  obtain ⟨q0, q1, q2, q3⟩ := q
  exact ⟨q0, q1, q2, q3.same rfl rfl⟩
theorem kv_run {Z : kv_Z} {p : Program} {e : Env} {R : Room} {s : State} {m : MethodId} {args : Array Value} {below : List Frame} {meth : Method} {c : Code} {H : Heap} {locs : List Loc} {cells slots : Nat} {Q : State → Prop} {pc : Nat} {L : Array Slot} {st0 rest : List Value} {v : Option Value} {h2 : kv_H} {a : Array Value} {mc ms : Nat}
    (hr : va_Run p Z.1 e R s m args below meth c H locs cells slots mc ms (F0 m pc L st0) rest (kv_Q Z v h2 a) (kv_A Z)) (hS : va_S (kv_A Z) s.heap H locs)
    (kk : ∀ (H1 : Heap) (locs1 : List Loc), va_P (kv_D Z) vwCl (kv_w Z h2) H1 → va_S (kv_A Z) s.heap H1 locs1 → W p Z.1 e R s m args below meth c H1 locs1 (cells + mc) (slots + ms) Q (F0 m (pc + 3) L ((v.map (kv_r Z)).toList ++ rest))) : W p Z.1 e R s m args below meth c H locs cells slots Q (F0 m pc L st0) := by
  intro T hT X
  obtain ⟨v', st₀, t, T', Lc, h0, X', hL, e1, e2, ⟨hv, hP, hz, hk⟩, st⟩ := hr T hT X
  cases hv
  rw [h0] at hz hk
  obtain ⟨t2, a1, b1⟩ := kk T'.heap (locs ++ Lc) (by rw [e1]; exact hP) ⟨Nat.le_trans hS.1 (by rw [e1]; exact hz), fun q h1 h2 => by rw [e1, hk q (Nat.lt_of_lt_of_le h1 hS.1) h2]; exact hS.2.1 q h1 h2, fun q hq => by
    rcases List.mem_append.mp hq with h | h
    · exact hS.2.2 q h
    · exact hL q h⟩ T' rfl X'
  exact ⟨t2, st t2 a1, b1⟩
theorem kv_room {d n0 k0 x : Nat} {h h2 h' : kv_H} {rm R : Room} (hrm : rm = kv_R d (h2.length - h.length) (kv_sl h2 - kv_sl h)) (hR : R = kv_R (d + 1) (h'.length - n0) (kv_sl h' - k0)) (hx : x ≤ 45) (g1 : n0 ≤ h.length) (g2 : k0 ≤ kv_sl h) (l1 : kv_le h h2) (l2 : kv_le h2 h') :
    (rm.frames + 1 ≤ R.frames ∧ 8 + (x + 11) + rm.locals ≤ R.locals) ∧ ((h.length - n0) + (h2.length - h.length) ≤ R.cells ∧ (kv_sl h - k0) + (kv_sl h2 - kv_sl h) ≤ R.slots) ∧ (h.length - n0) + (h2.length - h.length) = h2.length - n0 ∧ (kv_sl h - k0) + (kv_sl h2 - kv_sl h) = kv_sl h2 - k0 := by
  obtain ⟨a1, a2⟩ := l1
  obtain ⟨b1, b2⟩ := l2
  subst hrm
  subst hR
  refine ⟨⟨Nat.le_refl _, ?_⟩, ⟨?_, ?_⟩, ?_, ?_⟩ <;> (try simp only [kv_R]) <;> omega
theorem kv_cats (Z : kv_Z) (st : List Value) : ((st.map (kv_r Z)).map fun v => v.category) = st.map fun v => v.category := by
  rw [List.map_map]
  exact List.map_congr_left (fun v _ => kv_r_cat Z v)
section KC
variable {Z : kv_Z} {d : Nat} {M M' : kv_Me} {pc : Nat} {ls : List (Option Value)} {st stk As : List Value} {h h' h2 : kv_H} {r v : Option Value} {index n : Nat}
/-- a way into a callee, whatever the instruction: from the kit's run to the judgement -/
theorem kv_call (l1 : kv_le h h2) (ho : M'.2.2.1 ≤ 45)
    (hrun : ∀ (n0 k0 : Nat) (p : Program) (e : Env) (s : State) (m : MethodId) (args : Array Value) (below : List Frame) (meth : Method) (c : Code) (H : Heap) (locs : List Loc) (L : Array Slot), kv_fix Z M n0 p s m args meth c → va_P (kv_D Z) vwCl (kv_w Z h) H → va_S (kv_A Z) s.heap H locs → kv_L Z L M.2.2.1 ls → H.size = kv_b Z + h.length →
      ((kv_R d (h2.length - h.length) (kv_sl h2 - kv_sl h)).frames + 1 ≤ (kv_R (d + 1) (h'.length - n0) (kv_sl h' - k0)).frames ∧ 8 + (M'.2.2.1 + 11) + (kv_R d (h2.length - h.length) (kv_sl h2 - kv_sl h)).locals ≤ (kv_R (d + 1) (h'.length - n0) (kv_sl h' - k0)).locals) →
      ((h.length - n0) + (h2.length - h.length) ≤ (kv_R (d + 1) (h'.length - n0) (kv_sl h' - k0)).cells ∧ (kv_sl h - k0) + (kv_sl h2 - kv_sl h) ≤ (kv_R (d + 1) (h'.length - n0) (kv_sl h' - k0)).slots) →
      ∃ a, va_Run p Z.1 e (kv_R (d + 1) (h'.length - n0) (kv_sl h' - k0)) s m args below meth c H locs (h.length - n0) (kv_sl h - k0) (h2.length - h.length) (kv_sl h2 - kv_sl h) (F0 m pc L (stk.map (kv_r Z))) (st.map (kv_r Z)) (kv_Q Z v h2 a) (kv_A Z))
    (k : kv_V Z (d + 1) M (pc + 3) ls (v.toList ++ st) h2 r h') : kv_V Z (d + 1) M pc ls stk h r h' := by
  refine ⟨l1.tr k.1, fun n0 k0 p e s m args below meth c H locs L g1 g2 g3 g4 g5 g6 => ?_⟩
  obtain ⟨r1, r2, r3, r4⟩ := kv_room (n0 := n0) (k0 := k0) (d := d) rfl rfl ho g1 g2 l1 k.1
  refine kv_size g1 g3.2.2.2.2.2.2.2.2.1 g4 g5 (fun hsz => ?_)
  obtain ⟨a, hr⟩ := hrun n0 k0 p e s m args below meth c H locs L g3 g4 g5 g6 hsz r1 r2
  refine kv_run hr g5 (fun H1 locs1 q1 q2 => ?_)
  have := k.2 n0 k0 p e s m args below meth c H1 locs1 L (Nat.le_trans g1 l1.1) (Nat.le_trans g2 l1.2) g3 q1 q2 g6
  rw [← r3, ← r4] at this
  have e2 : (v.toList ++ st).map (kv_r Z) = (v.map (kv_r Z)).toList ++ st.map (kv_r Z) := by cases v <;> simp
  rw [e2] at this
  exact this
theorem kv_stk {a : Nat} (hs : stk = As.reverse ++ .ref a :: st) : stk.map (kv_r Z) = (As.map (kv_r Z)).reverse ++ .ref (kv_b Z + a) :: st.map (kv_r Z) := by
  rw [hs]; simp [List.map_reverse, kv_r]
theorem kv_stkS (hs : stk = As.reverse ++ st) : stk.map (kv_r Z) = (As.map (kv_r Z)).reverse ++ st.map (kv_r Z) := by
  rw [hs]; simp [List.map_reverse]
theorem kv_pre {n0 : Nat} {p : Program} {s : State} {m : MethodId} {args : Array Value} {meth : Method} {c : Code} {H : Heap} {locs : List Loc} (av : List Value) (g3 : kv_fix Z M n0 p s m args meth c) (g4 : va_P (kv_D Z) vwCl (kv_w Z h) H) (g5 : va_S (kv_A Z) s.heap H locs) (hsz : H.size = kv_b Z + h.length) : PreS s H (kv_P Z av h) (av.map (kv_r Z)) :=
  ⟨kv_blind Z av h, fun U hU hW => ⟨rfl, by rw [hU]; exact hsz, by rw [hU]; exact g4, g3.2.2.2.2.2.2.2.1.at hW hU g5⟩⟩
theorem kv_fixC {n0 : Nat} {p : Program} {s : State} {m : MethodId} {args : Array Value} {meth : Method} {c : Code} (g3 : kv_fix Z M n0 p s m args meth c) : CallFix p m c M.2.1 M.2.2.1 s args (kv_ws M) M.1.cls := ⟨g3.1, g3.2.1, g3.2.2.2.2.1, g3.2.2.2.2.2.1, g3.2.2.2.2.2.2.1⟩
/-- invokevirtual of a method of the object's own class -/
theorem kr_callV {a ci : Nat} {fs : List Value} {T : u_T} {N : Nat} (hm : kv_M Z d M' (.ref a :: As) h v h2) (ho : kv_ok M' n) (hn : As.length = n) (ha : h[a]? = some (.inr (.inr (ci, fs)))) (hc : vwCl[ci]? = some (M'.1.cls, T, N)) (hl : Cond.methodLink M.1.cls index M'.1 ∈ kv_W) (hi : Cond.instanceMethod M'.1 ∈ kv_W) (hse : Cond.selects M'.1.cls M'.1 M'.1 ∈ kv_W) (hs : stk = As.reverse ++ .ref a :: st) (hcat : (st.map fun v => v.category).sum ≤ 8) (hd : decode M.2.1 pc = .ok (.invokevirtual index, 3)) (k : kv_V Z (d + 1) M (pc + 3) ls (v.toList ++ st) h2 r h') : kv_V Z (d + 1) M pc ls stk h r h' := by
  refine kv_call (M' := M') hm.1 ho.2.2.2 (fun n0 k0 p e s m args below meth c H locs L g3 g4 g5 g6 hsz r1 r2 => ?_) k
  have hts := g3.2.2.2.2.2.2.1
  have hp := kv_pre (.ref a :: As) g3 g4 g5 hsz
  have cb := callB_of (own := M.1.cls) (index := index) n hts (kv_gin ho.2.1) rfl rfl rfl (hts _ (kv_up ho.2.2.1)) (hts _ (kv_up hl)) ho.1 r1
  exact ⟨_, va_runV (C := M'.1.cls) (As := As.map (kv_r Z)) (kv_fixC g3) hm.2 ⟨cb, hts _ (kv_up hi), hts _ (kv_up hse)⟩ ⟨hp.1, va_recv g3.2.2.2.2.2.2.2.1.1 g4 hc (kv_w_get ha), hp.2⟩ rfl (by rw [List.length_map]; exact hn) g6.1 (kv_stk hs) (by rw [kv_cats]; exact lv_room (m := m) (pc := pc) (ls := L) (rest := []) hcat) hd r2⟩
/-- invokevirtual of a method that the object's class inherits or overrides -/
theorem kr_callU {a ci : Nat} {fs : List Value} {C owner : String} {x : MethodName} {b0 : ByteArray} {m0 : Nat} {r0 : Option FieldType} {T : u_T} {N : Nat} (hm : kv_M Z d M' (.ref a :: As) h v h2) (ho : kv_ok M' n) (hn : As.length = n) (ha : h[a]? = some (.inr (.inr (ci, fs)))) (hc : vwCl[ci]? = some (C, T, N)) (hl : Cond.methodLink M.1.cls index x ∈ kv_W) (hsm : Cond.sameMethod x.cls owner x.name x.desc ∈ kv_W) (h0 : Cond.code ⟨owner, x.name, x.desc⟩ b0 m0 r0 ∈ kv_W) (h1 : Cond.instanceMethod ⟨owner, x.name, x.desc⟩ ∈ kv_W) (hse : Cond.selects C x M'.1 ∈ kv_W) (hi : Cond.instanceMethod M'.1 ∈ kv_W) (hx : owner ≠ "java/lang/invoke/MethodHandle" ∧ owner ≠ "java/lang/invoke/VarHandle" ∧ (parseMethodDescriptor x.desc).map (fun d => d.parameters.length) = some n) (hs : stk = As.reverse ++ .ref a :: st) (hcat : (st.map fun v => v.category).sum ≤ 8) (hd : decode M.2.1 pc = .ok (.invokevirtual index, 3)) (k : kv_V Z (d + 1) M (pc + 3) ls (v.toList ++ st) h2 r h') : kv_V Z (d + 1) M pc ls stk h r h' := by
  refine kv_call (M' := M') hm.1 ho.2.2.2 (fun n0 k0 p e s m args below meth c H locs L g3 g4 g5 g6 hsz r1 r2 => ?_) k
  have hts := g3.2.2.2.2.2.2.1
  have hp := kv_pre (.ref a :: As) g3 g4 g5 hsz
  have cu : va_CU (kv_R (d + 1) (h'.length - n0) (kv_sl h' - k0)) s args M.1.cls C owner index x M'.1 M'.2.1 M'.2.2.1 M'.2.2.2 (kv_ws M') (kv_R d (h2.length - h.length) (kv_sl h2 - kv_sl h)) (h2.length - h.length) (kv_sl h2 - kv_sl h) n := by
    refine ⟨⟨rfl, rfl, r1.1, r1.2, pay_in hts (kv_gin ho.2.1), List.mem_cons_self⟩, hts _ (kv_up ho.2.1), hts _ (kv_up ho.2.2.1), ⟨hx.1, hx.2.1⟩, fun sig hsg => ?_, hts _ (kv_up hl), hts _ (kv_up hsm), va_Decl.of (hts _ (kv_up h1)) (hts _ (kv_up h0)), hts _ (kv_up hse), hts _ (kv_up hi)⟩
    have q := hx.2.2
    rw [hsg] at q
    exact (Option.some.inj q).symm
  exact ⟨_, va_runU (As := As.map (kv_r Z)) (kv_fixC g3) hm.2 cu ⟨hp.1, va_recv g3.2.2.2.2.2.2.2.1.1 g4 hc (kv_w_get ha), hp.2⟩ rfl (by rw [List.length_map]; exact hn) g6.1 (kv_stk hs) (by rw [kv_cats]; exact lv_room (m := m) (pc := pc) (ls := L) (rest := []) hcat) hd r2⟩
/-- invokevirtual of the text constant -/
theorem kr_callX (hm : kv_M Z d M' (.retAddr 0 :: As) h v h2) (ho : kv_ok M' n) (hn : As.length = n) (hcl : M'.1.cls = "java/lang/String") (hl : Cond.methodLink M.1.cls index M'.1 ∈ kv_W) (hi : Cond.instanceMethod M'.1 ∈ kv_W) (hse : Cond.selects M'.1.cls M'.1 M'.1 ∈ kv_W) (hs : stk = As.reverse ++ .retAddr 0 :: st) (hcat : (st.map fun v => v.category).sum ≤ 8) (hd : decode M.2.1 pc = .ok (.invokevirtual index, 3)) (k : kv_V Z (d + 1) M (pc + 3) ls (v.toList ++ st) h2 r h') : kv_V Z (d + 1) M pc ls stk h r h' := by
  refine kv_call (M' := M') hm.1 ho.2.2.2 (fun n0 k0 p e s m args below meth c H locs L g3 g4 g5 g6 hsz r1 r2 => ?_) k
  have hts := g3.2.2.2.2.2.2.1
  have hp := kv_pre (.retAddr 0 :: As) g3 g4 g5 hsz
  have cb := callB_of (own := M.1.cls) (index := index) n hts (kv_gin ho.2.1) rfl rfl rfl (hts _ (kv_up ho.2.2.1)) (hts _ (kv_up hl)) ho.1 r1
  refine ⟨_, va_runV (C := M'.1.cls) (As := As.map (kv_r Z)) (kv_fixC g3) hm.2 ⟨cb, hts _ (kv_up hi), hts _ (kv_up hse)⟩ ⟨hp.1, ?_, hp.2⟩ rfl (by rw [List.length_map]; exact hn) g6.1 (by rw [show (F0 m pc L (stk.map (kv_r Z))).stack = stk.map (kv_r Z) from rfl, hs]; simp [List.map_reverse, kv_r]) (by rw [kv_cats]; exact lv_room (m := m) (pc := pc) (ls := L) (rest := []) hcat) hd r2⟩
  have := vk_recv (i := 0) g3.2.2.2.2.2.2.2.1.2.2.2.2.2.2.1 (by omega) g5
  rw [hcl]
  exact this
/-- invokestatic -/
theorem kr_callS (hm : kv_M Z d M' As h v h2) (ho : kv_ok M' n) (hn : As.length = n) (hl : Cond.methodLink M.1.cls index M'.1 ∈ kv_W) (hst : Cond.static M'.1 ∈ kv_W) (hs : stk = As.reverse ++ st) (hcat : (st.map fun v => v.category).sum ≤ 8) (hd : decode M.2.1 pc = .ok (.invokestatic index, 3)) (k : kv_V Z (d + 1) M (pc + 3) ls (v.toList ++ st) h2 r h') : kv_V Z (d + 1) M pc ls stk h r h' := by
  refine kv_call (M' := M') hm.1 ho.2.2.2 (fun n0 k0 p e s m args below meth c H locs L g3 g4 g5 g6 hsz r1 r2 => ?_) k
  have hts := g3.2.2.2.2.2.2.1
  have cb := callB_of (own := M.1.cls) (index := index) n hts (kv_gin ho.2.1) rfl rfl rfl (hts _ (kv_up ho.2.2.1)) (hts _ (kv_up hl)) ho.1 r1
  exact ⟨_, va_runS (As := As.map (kv_r Z)) (kv_fixC g3) hm.2 ⟨cb, hts _ (kv_up hst)⟩ (kv_pre As g3 g4 g5 hsz) rfl (by rw [List.length_map]; exact hn) g6.1 (kv_stkS hs) (by rw [kv_cats]; exact lv_room (m := m) (pc := pc) (ls := L) (rest := []) hcat) hd r2⟩
theorem kv_cnB {n0 k0 : Nat} {p : Program} {s : State} {m : MethodId} {args : Array Value} {meth : Method} {c : Code} (g3 : kv_fix Z M n0 p s m args meth c) (ho : kv_ok M' n) (hq : (M.1.cls, index, M'.1, RX10) ∈ kv_nest)
   (r1 : (kv_R d (h2.length - h.length) (kv_sl h2 - kv_sl h)).frames + 1 ≤ (kv_R (d + 1) (h'.length - n0) (kv_sl h' - k0)).frames ∧ 8 + (M'.2.2.1 + 11) + (kv_R d (h2.length - h.length) (kv_sl h2 - kv_sl h)).locals ≤ (kv_R (d + 1) (h'.length - n0) (kv_sl h' - k0)).locals) : va_CN (kv_R (d + 1) (h'.length - n0) (kv_sl h' - k0)) s args M.1.cls index M'.1 RX10 M'.2.1 M'.2.2.1 M'.2.2.2 (kv_ws M') (kv_R d (h2.length - h.length) (kv_sl h2 - kv_sl h)) (h2.length - h.length) (kv_sl h2 - kv_sl h) n :=
  va_cnB n g3.2.2.2.2.2.2.1 (kv_gin ho.2.1) rfl rfl rfl (g3.2.2.2.2.2.2.2.1.2.1 _ hq) (g3.2.2.2.2.2.2.1 _ (kv_up ho.2.2.1)) ho.1 r1
/-- invokestatic of a nest mate -/
theorem kr_callSN (hm : kv_M Z d M' As h v h2) (ho : kv_ok M' n) (hn : As.length = n) (hq : (M.1.cls, index, M'.1, RX10) ∈ kv_nest) (hst : Cond.static M'.1 ∈ kv_W) (hs : stk = As.reverse ++ st) (hcat : (st.map fun v => v.category).sum ≤ 8) (hd : decode M.2.1 pc = .ok (.invokestatic index, 3)) (k : kv_V Z (d + 1) M (pc + 3) ls (v.toList ++ st) h2 r h') : kv_V Z (d + 1) M pc ls stk h r h' := by
  refine kv_call (M' := M') hm.1 ho.2.2.2 (fun n0 k0 p e s m args below meth c H locs L g3 g4 g5 g6 hsz r1 r2 => ?_) k
  have hts := g3.2.2.2.2.2.2.1
  exact ⟨_, va_runSN (As := As.map (kv_r Z)) (kv_fixC g3) hm.2 ⟨kv_cnB g3 ho hq r1, hts _ (kv_up hst), trivial⟩ (kv_pre As g3 g4 g5 hsz) rfl (by rw [List.length_map]; exact hn) g6.1 (kv_stkS hs) (by rw [kv_cats]; exact lv_room (m := m) (pc := pc) (ls := L) (rest := []) hcat) hd r2⟩
/-- invokespecial of a constructor -/
theorem kr_callI {a : Nat} (hm : kv_M Z d M' (.ref a :: As) h none h2) (ho : kv_ok M' n) (hn : As.length = n) (hrt : M'.2.2.2 = none) (hnm : M'.1.name = "<init>") (hl : Cond.methodLink M.1.cls index M'.1 ∈ kv_W) (hi : Cond.instanceMethod M'.1 ∈ kv_W) (hs : stk = As.reverse ++ .ref a :: st) (hcat : (st.map fun v => v.category).sum ≤ 8) (hd : decode M.2.1 pc = .ok (.invokespecial index, 3)) (k : kv_V Z (d + 1) M (pc + 3) ls st h2 r h') : kv_V Z (d + 1) M pc ls stk h r h' := by
  refine kv_call (M' := M') (v := none) hm.1 ho.2.2.2 (fun n0 k0 p e s m args below meth c H locs L g3 g4 g5 g6 hsz r1 r2 => ?_) k
  have hts := g3.2.2.2.2.2.2.1
  have cb := callB_of (own := M.1.cls) (index := index) n hts (kv_gin ho.2.1) rfl rfl rfl (hts _ (kv_up ho.2.2.1)) (hts _ (kv_up hl)) ho.1 r1
  rw [hrt] at cb
  exact ⟨_, va_runI (As := As.map (kv_r Z)) (kv_fixC g3) hm.2 ⟨cb, hnm, hts _ (kv_up hi)⟩ (kv_pre (.ref a :: As) g3 g4 g5 hsz) rfl (by rw [List.length_map]; exact hn) g6.1 (kv_stk hs) (by rw [kv_cats]; exact lv_room (m := m) (pc := pc) (ls := L) (rest := []) hcat) hd r2⟩
theorem kr_callIN {a : Nat} (hm : kv_M Z d M' (.ref a :: As) h none h2) (ho : kv_ok M' n) (hn : As.length = n) (hrt : M'.2.2.2 = none) (hnm : M'.1.name = "<init>") (hq : (M.1.cls, index, M'.1, RX10) ∈ kv_nest) (hi : Cond.instanceMethod M'.1 ∈ kv_W) (hs : stk = As.reverse ++ .ref a :: st) (hcat : (st.map fun v => v.category).sum ≤ 8) (hd : decode M.2.1 pc = .ok (.invokespecial index, 3)) (k : kv_V Z (d + 1) M (pc + 3) ls st h2 r h') : kv_V Z (d + 1) M pc ls stk h r h' := by
  refine kv_call (M' := M') (v := none) hm.1 ho.2.2.2 (fun n0 k0 p e s m args below meth c H locs L g3 g4 g5 g6 hsz r1 r2 => ?_) k
  have hts := g3.2.2.2.2.2.2.1
  have cb := kv_cnB (h := h) (h2 := h2) (h' := h') (d := d) (k0 := k0) g3 ho hq r1
  rw [hrt] at cb
  exact ⟨_, va_runIN (As := As.map (kv_r Z)) (kv_fixC g3) hm.2 ⟨cb, hnm, hts _ (kv_up hi)⟩ (kv_pre (.ref a :: As) g3 g4 g5 hsz) rfl (by rw [List.length_map]; exact hn) g6.1 (kv_stk hs) (by rw [kv_cats]; exact lv_room (m := m) (pc := pc) (ls := L) (rest := []) hcat) hd r2⟩
end KC
end
section
/-! NEW CELLS, CONSTANTS, THE TEXT, COPIES, KINDS -/
section KN
variable {Z : kv_Z} {d : Nat} {M : kv_Me} {pc : Nat} {ls : List (Option Value)} {st : List Value} {h h' : kv_H} {r : Option Value} {index : Nat}
/-- where a new cell lies -/
theorem kv_place {p : Program} {e : Env} {R : Room} {s : State} {m : MethodId} {args : Array Value} {below : List Frame} {meth : Method} {c : Code} {H1 : Heap} {locs : List Loc} {n0 slots q : Nat} {Q : State → Prop} {g : Nat → JFrame} {x : va_E}
    (hn : n0 ≤ h.length) (hs : s.heap.size = kv_b Z + n0) (hP : va_P (kv_D Z) vwCl (kv_w Z h ++ [(q, x)]) H1) (hD : va_D (kv_A Z) (kv_w Z h ++ [(q, x)])) (k : q = kv_b Z + h.length → W p Z.1 e R s m args below meth c H1 locs (h.length - n0 + 1) slots Q (g q)) : W p Z.1 e R s m args below meth c H1 locs (h.length - n0 + 1) slots Q (g q) := by
  intro T hT X
  refine k ?_ T hT X
  have h1 := X.heapSize
  rw [hT, hs] at h1
  have hlen : (kv_w Z h).length = h.length := by
    have gen : ∀ (l : kv_H) (n : Nat), (kv_wf Z n l).length = l.length := by
      intro l
      induction l with
      | nil => intro n; rfl
      | cons c l ih => intro n; simp [kv_wf, ih]
    exact gen h 0
  have hq : (kv_w Z h ++ [(q, x)])[h.length]? = some (q, x) := by
    rw [List.getElem?_append_right (by omega), hlen]; simp
  have h2 : q < H1.size := (hP _ _ hq).lt
  have h3 : kv_b Z ≤ q := hD.2 _ _ hq
  by_cases hlt : q < kv_b Z + h.length
  · exfalso
    have hk : q - kv_b Z < h.length := by omega
    have e1 : (kv_w Z h ++ [(q, x)])[q - kv_b Z]? = some (kv_b Z + (q - kv_b Z), kv_cv Z h[q - kv_b Z]) := by
      rw [List.getElem?_append_left (by omega)]
      exact kv_w_get (List.getElem?_eq_getElem hk)
    have := hD.1 _ _ _ _ e1 hq (by simp; omega)
    omega
  · omega
theorem kr_new {ci N : Nat} {C : String} {T : u_T} {fs : List Value} (ty : Nat → FieldType) (hty : ∀ k, k < N → parseFieldDescriptor (T k).2.2.1 = some (ty k)) (hc : vwCl[ci]? = some (C, T, N)) (hin : ∀ w ∈ u_ws C T N, w ∈ kv_W) (hl : Cond.classLink M.1.cls index C ∈ kv_W) (hi : Cond.instantiable C N ∈ kv_W) (hini : Cond.initialized C ∈ kv_W) (hfs : ∀ j, j < N → defaultValue (ty j) = vp_V (fs.map (kv_r Z)) j) (hlen : fs.length = N) (hd : decode M.2.1 pc = .ok (.new index, 3)) (kk : kv_V Z d M (pc + 3) ls (.ref h.length :: st) (h ++ [.inr (.inr (ci, fs))]) r h') : kv_V Z d M pc ls st h r h' := by
  have l1 : kv_le h (h ++ [.inr (.inr (ci, fs))]) := ⟨by simp, by rw [kv_sl_app]; omega⟩
  have k1 := kk.1
  refine ⟨l1.tr k1, fun n0 k0 p e s m args below meth c H locs L g1 g2 g3 g4 g5 g6 => ?_⟩
  obtain ⟨hx, hb, hrt, hlk, hml, hown, hts, hK, hsz, hnm⟩ := id g3
  have ea : (h ++ [(.inr (.inr (ci, fs)) : kv_C)]).length = h.length + 1 := by simp
  have eb : kv_sl (h ++ [.inr (.inr (ci, fs))]) = kv_sl h + N := by rw [kv_sl_app]; simp [kv_cs, hlen]
  have k2 := k1.1
  have k3 := k1.2
  rw [ea] at k2
  rw [eb] at k3
  refine va_new hx hb hts (fun w hw => kv_up (hin w hw)) ty hty hown (hts _ (kv_up hl)) (hts _ (kv_up hi)) (hts _ (kv_up hini)) hK.1 g4 (kv_w_D Z h) g5 (fun q hq => by show kv_b Z ≤ q; omega) hc (fs := fs.map (kv_r Z)) hfs (by simp only [kv_R]; omega) (by simp only [kv_R]; omega) hd (fun q H1 q1 q2 q3 => ?_)
  refine kv_place (g := fun q => F0 m (pc + 3) L (.ref q :: st.map (kv_r Z))) g1 hsz q1 q2 (fun eq => ?_)
  subst eq
  have q1' : va_P (kv_D Z) vwCl (kv_w Z (h ++ [.inr (.inr (ci, fs))])) H1 := by rw [kv_w_app]; exact q1
  have := kk.2 n0 k0 p e s m args below meth c H1 locs L (by rw [ea]; omega) (by rw [eb]; omega) g3 q1' q3 g6
  rw [ea, eb, show h.length + 1 - n0 = h.length - n0 + 1 by omega, show kv_sl h + N - k0 = kv_sl h - k0 + N by omega] at this
  exact this
theorem kr_newi {n : Int32} {N : Nat} (harr : Cond.arrayClass .int ∈ kv_W) (hn : ¬ n < 0) (hN : n.toNatClampNeg = N) (hb9 : N * 4 ≤ 536870912) (hd : decode M.2.1 pc = .ok (.newarray .int, 2)) (kk : kv_V Z d M (pc + 2) ls (.ref h.length :: st) (h ++ [.inl (List.replicate N 0)]) r h') : kv_V Z d M pc ls (.int n :: st) h r h' := by
  have l1 : kv_le h (h ++ [.inl (List.replicate N 0)]) := ⟨by simp, by rw [kv_sl_app]; omega⟩
  have k1 := kk.1
  refine ⟨l1.tr k1, fun n0 k0 p e s m args below meth c H locs L g1 g2 g3 g4 g5 g6 => ?_⟩
  obtain ⟨hx, hb, hrt, hlk, hml, hown, hts, hK, hsz, hnm⟩ := id g3
  have ea : (h ++ [(.inl (List.replicate N 0) : kv_C)]).length = h.length + 1 := by simp
  have eb : kv_sl (h ++ [.inl (List.replicate N 0)]) = kv_sl h + N := by rw [kv_sl_app]; simp [kv_cs]
  have k2 := k1.1
  have k3 := k1.2
  rw [ea] at k2
  rw [eb] at k3
  refine va_newa (atype := .int) hx hb (hts _ (kv_up harr)) (ty := .int) rfl hK.1 g4 (kv_w_D Z h) g5 (fun q hq => by show kv_b Z ≤ q; omega) (a0 := (N, .inl (fun _ => 0))) (fun cA => rfl) hn hN hb9 (by simp only [kv_R]; omega) (by simp only [kv_R]; omega) hd (fun q cA H1 q0 q1 q2 q3 => ?_)
  refine kv_place (g := fun q => F0 m (pc + 2) L (.ref q :: st.map (kv_r Z))) g1 hsz q1 q2 (fun eq => ?_)
  subst eq
  have ec : cA = kv_I Z := by
    have a1 := (q0.2 2 _ rfl).2
    have a2 := (hK.1.2 0 _ rfl).2
    exact Option.some.inj (Eq.trans (Eq.symm a1) a2)
  subst ec
  have q1' : va_P (kv_D Z) vwCl (kv_w Z (h ++ [.inl (List.replicate N 0)])) H1 := by
    rw [kv_w_app]
    have e9 : kv_cv Z (.inl (List.replicate N 0)) = .inl (kv_I Z, N, .inl (fun _ => 0)) := by
      show (.inl (kv_I Z, (List.replicate N (0 : Int32)).length, .inl (fun k => (List.replicate N (0 : Int32)).getD k 0)) : va_E) = _
      rw [List.length_replicate]
      congr 4
      funext k
      rw [List.getD_eq_getElem?_getD, List.getElem?_replicate]
      split <;> rfl
    rw [e9]
    exact q1
  have := kk.2 n0 k0 p e s m args below meth c H1 locs L (by rw [ea]; omega) (by rw [eb]; omega) g3 q1' q3 g6
  rw [ea, eb, show h.length + 1 - n0 = h.length - n0 + 1 by omega, show kv_sl h + N - k0 = kv_sl h - k0 + N by omega] at this
  exact this
theorem kr_newq {n : Int32} {N : Nat} (hl : Cond.classLink M.1.cls index RX8 ∈ kv_W) (hn : ¬ n < 0) (hN : n.toNatClampNeg = N) (hb9 : N * 4 ≤ 536870912) (hd : decode M.2.1 pc = .ok (.anewarray index, 3)) (kk : kv_V Z d M (pc + 3) ls (.ref h.length :: st) (h ++ [.inr (.inl (List.replicate N none))]) r h') : kv_V Z d M pc ls (.int n :: st) h r h' := by
  have l1 : kv_le h (h ++ [.inr (.inl (List.replicate N none))]) := ⟨by simp, by rw [kv_sl_app]; omega⟩
  have k1 := kk.1
  refine ⟨l1.tr k1, fun n0 k0 p e s m args below meth c H locs L g1 g2 g3 g4 g5 g6 => ?_⟩
  obtain ⟨hx, hb, hrt, hlk, hml, hown, hts, hK, hsz, hnm⟩ := id g3
  have ea : (h ++ [(.inr (.inl (List.replicate N none)) : kv_C)]).length = h.length + 1 := by simp
  have eb : kv_sl (h ++ [.inr (.inl (List.replicate N none))]) = kv_sl h + N := by rw [kv_sl_app]; simp [kv_cs]
  have k2 := k1.1
  have k3 := k1.2
  rw [ea] at k2
  rw [eb] at k3
  refine va_newq hx hb hown (hts _ (kv_up hl)) hK.2.2.1 hK.1 g4 (kv_w_D Z h) g5 (fun q hq => by show kv_b Z ≤ q; omega) hn hN hb9 (by simp only [kv_R]; omega) (by simp only [kv_R]; omega) hd (fun q cA H1 q0 q1 q2 q3 => ?_)
  refine kv_place (g := fun q => F0 m (pc + 3) L (.ref q :: st.map (kv_r Z))) g1 hsz q1 q2 (fun eq => ?_)
  subst eq
  have ec : cA = kv_T Z := by
    obtain ⟨_, _, -, -, -, a1⟩ := (q0.2 2 _ rfl).2
    obtain ⟨_, _, -, -, -, a2⟩ := (hK.1.2 1 _ rfl).2
    exact Option.some.inj (Eq.trans (Eq.symm a1) a2)
  subst ec
  have q1' : va_P (kv_D Z) vwCl (kv_w Z (h ++ [.inr (.inl (List.replicate N none))])) H1 := by
    rw [kv_w_app]
    have e9 : kv_cv Z (.inr (.inl (List.replicate N none))) = .inl (kv_T Z, N, .inr (.inr (.inr (.inr (fun _ => none))))) := by
      show (.inl (kv_T Z, (List.replicate N (none : Option Nat)).length, .inr (.inr (.inr (.inr (fun k => ((List.replicate N (none : Option Nat)).getD k none).map (kv_b Z + ·)))))) : va_E) = _
      rw [List.length_replicate]
      congr 7
      funext k
      rw [List.getD_eq_getElem?_getD, List.getElem?_replicate]
      split <;> rfl
    rw [e9]
    exact q1
  have := kk.2 n0 k0 p e s m args below meth c H1 locs L (by rw [ea]; omega) (by rw [eb]; omega) g3 q1' q3 g6
  rw [ea, eb, show h.length + 1 - n0 = h.length - n0 + 1 by omega, show kv_sl h + N - k0 = kv_sl h - k0 + N by omega] at this
  exact this
theorem kr_objInit {a : Nat} (hl : Cond.methodLink M.1.cls index Lib.objectInit ∈ kv_W) (hi : Cond.instanceMethod Lib.objectInit ∈ kv_W) (hc : Cond.code Lib.objectInit ⟨#[0xb1]⟩ 1 none ∈ kv_W) (hcat : (st.map fun v => v.category).sum ≤ 8) (hd : decode M.2.1 pc = .ok (.invokespecial index, 3)) (kk : kv_V Z d M (pc + 3) ls st h r h') : kv_V Z d M pc ls (.ref a :: st) h r h' := by
  refine ⟨kk.1, fun n0 k0 p e s m args below meth c H locs L g1 g2 g3 g4 g5 g6 => ?_⟩
  obtain ⟨hx, hb, hrt, hlk, hml, hown, hts, hK, hsz, hnm⟩ := id g3
  refine W.objInit (rest := st.map (kv_r Z)) hx hb hown (hts _ (kv_up hl)) (hts _ (kv_up hi)) (hts _ (kv_up hc)) rfl (g6.1.trans hml.symm) rfl hd (by simp [kv_R]) ?_ (kk.2 n0 k0 p e s m args below meth c H locs L g1 g2 g3 g4 g5 g6)
  rw [kv_cats]
  have := lv_room (m := m) (pc := pc) (ls := L) (rest := []) hcat
  simp only [kv_R]
  show 2 * (F0 m pc L []).monitorRoom + _ + 12 ≤ _
  omega
theorem kr_ldc {x : Int32} (hl : Cond.constant M.1.cls index x ∈ kv_W) (hd : decode M.2.1 pc = .ok (.ldc index, 2)) (kk : kv_V Z d M (pc + 2) ls (.int x :: st) h r h') : kv_V Z d M pc ls st h r h' := by
  refine ⟨kk.1, fun n0 k0 p e s m args below meth c H locs L g1 g2 g3 g4 g5 g6 => ?_⟩
  obtain ⟨hx, hb, hrt, hlk, hml, hown, hts, hK, hsz, hnm⟩ := id g3
  exact lv_ldc hx hb hown (hts _ (kv_up hl)) hd (kk.2 n0 k0 p e s m args below meth c H locs L g1 g2 g3 g4 g5 g6)
theorem kr_ldcw {x : Int32} (hl : Cond.constant M.1.cls index x ∈ kv_W) (hd : decode M.2.1 pc = .ok (.ldc_w index, 3)) (kk : kv_V Z d M (pc + 3) ls (.int x :: st) h r h') : kv_V Z d M pc ls st h r h' := by
  refine ⟨kk.1, fun n0 k0 p e s m args below meth c H locs L g1 g2 g3 g4 g5 g6 => ?_⟩
  obtain ⟨hx, hb, hrt, hlk, hml, hown, hts, hK, hsz, hnm⟩ := id g3
  exact lv_ldcw hx hb hown (hts _ (kv_up hl)) hd (kk.2 n0 k0 p e s m args below meth c H locs L g1 g2 g3 g4 g5 g6)
theorem kr_ldc2 {x : Int64} (hl : Cond.constantLong M.1.cls index x ∈ kv_W) (hd : decode M.2.1 pc = .ok (.ldc2_w index, 3)) (kk : kv_V Z d M (pc + 3) ls (.long x :: st) h r h') : kv_V Z d M pc ls st h r h' := by
  refine ⟨kk.1, fun n0 k0 p e s m args below meth c H locs L g1 g2 g3 g4 g5 g6 => ?_⟩
  obtain ⟨hx, hb, hrt, hlk, hml, hown, hts, hK, hsz, hnm⟩ := id g3
  exact lv_ldc2 hx hb hown (hts _ (kv_up hl)) hd (kk.2 n0 k0 p e s m args below meth c H locs L g1 g2 g3 g4 g5 g6)
/-- the text constant -/
theorem kr_ldcX (ho : M.1.cls = RX2) (hd : decode M.2.1 pc = .ok (.ldc 34, 2)) (kk : kv_V Z d M (pc + 2) ls (.retAddr 0 :: st) h r h') : kv_V Z d M pc ls st h r h' := by
  refine ⟨kk.1, fun n0 k0 p e s m args below meth c H locs L g1 g2 g3 g4 g5 g6 => ?_⟩
  obtain ⟨hx, hb, hrt, hlk, hml, hown, hts, hK, hsz, hnm⟩ := id g3
  rw [ho] at hown
  exact va_ldcS hx hb hown hK.2.2.2.2.2.1 hd (kk.2 n0 k0 p e s m args below meth c H locs L g1 g2 g3 g4 g5 g6)
theorem kr_getX (hl : Cond.fieldLink M.1.cls index "java/lang/String" "value" "[B" ∈ kv_W) (hd : decode M.2.1 pc = .ok (.getfield index, 3)) (kk : kv_V Z d M (pc + 3) ls (.retAddr 1 :: st) h r h') : kv_V Z d M pc ls (.retAddr 0 :: st) h r h' := by
  refine ⟨kk.1, fun n0 k0 p e s m args below meth c H locs L g1 g2 g3 g4 g5 g6 => ?_⟩
  obtain ⟨hx, hb, hrt, hlk, hml, hown, hts, hK, hsz, hnm⟩ := id g3
  exact vk_getf hx hb (hK.2.2.2.2.2.2.1.1 0 (by omega)).2.2.1 g5 hown (hts _ (kv_up hl)) (fun _ h9 => h9) hd (kk.2 n0 k0 p e s m args below meth c H locs L g1 g2 g3 g4 g5 g6)
theorem kr_codX (hl : Cond.fieldLink M.1.cls index "java/lang/String" "coder" "B" ∈ kv_W) (hd : decode M.2.1 pc = .ok (.getfield index, 3)) (kk : kv_V Z d M (pc + 3) ls (.int 0 :: st) h r h') : kv_V Z d M pc ls (.retAddr 0 :: st) h r h' := by
  refine ⟨kk.1, fun n0 k0 p e s m args below meth c H locs L g1 g2 g3 g4 g5 g6 => ?_⟩
  obtain ⟨hx, hb, hrt, hlk, hml, hown, hts, hK, hsz, hnm⟩ := id g3
  exact vk_getf hx hb (hK.2.2.2.2.2.2.1.1 0 (by omega)).2.1 g5 hown (hts _ (kv_up hl)) (fun _ h9 => h9) hd (kk.2 n0 k0 p e s m args below meth c H locs L g1 g2 g3 g4 g5 g6)
theorem kr_getsX (hl : Cond.fieldLink M.1.cls index "java/lang/String" "COMPACT_STRINGS" "Z" ∈ kv_W) (hd : decode M.2.1 pc = .ok (.getstatic index, 3)) (kk : kv_V Z d M (pc + 3) ls (.int 1 :: st) h r h') : kv_V Z d M pc ls st h r h' := by
  refine ⟨kk.1, fun n0 k0 p e s m args below meth c H locs L g1 g2 g3 g4 g5 g6 => ?_⟩
  obtain ⟨hx, hb, hrt, hlk, hml, hown, hts, hK, hsz, hnm⟩ := id g3
  exact va_gets hx hb hK.2.2.2.2.2.2.2 g5 hown (hts _ (kv_up hl)) (fun _ h9 => h9) hd (kk.2 n0 k0 p e s m args below meth c H locs L g1 g2 g3 g4 g5 g6)
theorem kr_lenY (hd : decode M.2.1 pc = .ok (.arraylength, 1)) (kk : kv_V Z d M (pc + 1) ls (.int 5 :: st) h r h') : kv_V Z d M pc ls (.retAddr 1 :: st) h r h' := by
  refine ⟨kk.1, fun n0 k0 p e s m args below meth c H locs L g1 g2 g3 g4 g5 g6 => ?_⟩
  obtain ⟨hx, hb, hrt, hlk, hml, hown, hts, hK, hsz, hnm⟩ := id g3
  exact va_tlen hx hb (hK.2.2.2.2.2.2.1.1 0 (by omega)).2.2.2 g5 (by decide) hd (kk.2 n0 k0 p e s m args below meth c H locs L g1 g2 g3 g4 g5 g6)
theorem kr_aldY {i x : Int32} (hi : vp_in i 5) (hv : (kv_byt.getD 0 []).getD i.toNatClampNeg 0 = x) (hd : decode M.2.1 pc = .ok (.baload, 1)) (kk : kv_V Z d M (pc + 1) ls (.int x :: st) h r h') : kv_V Z d M pc ls (.int i :: .retAddr 1 :: st) h r h' := by
  refine ⟨kk.1, fun n0 k0 p e s m args below meth c H locs L g1 g2 g3 g4 g5 g6 => ?_⟩
  obtain ⟨hx, hb, hrt, hlk, hml, hown, hts, hK, hsz, hnm⟩ := id g3
  exact va_tb hx hb (hK.2.2.2.2.2.2.1.1 0 (by omega)).2.2.2 g5 hi (v := .int x) (by rw [hv]) hd (kk.2 n0 k0 p e s m args below meth c H locs L g1 g2 g3 g4 g5 g6)
/-- System.arraycopy of a whole row over a row as long -/
theorem kr_copy {a b : Nat} {xs ys : List Int32} {n : Int32} (ha : h[a]? = some (.inl xs)) (hb0 : h[b]? = some (.inl ys)) (hn : ¬ n < 0) (hx1 : n.toNatClampNeg ≤ xs.length) (hy1 : n.toNatClampNeg ≤ ys.length) (hl : Cond.methodLink M.1.cls index arraycopyName ∈ kv_W) (hnat : Cond.native arraycopyName ∈ kv_W) (hst : Cond.static arraycopyName ∈ kv_W) (hini : Cond.initialized "java/lang/System" ∈ kv_W) (hcat : (st.map fun v => v.category).sum ≤ 8) (hd : decode M.2.1 pc = .ok (.invokestatic index, 3)) (kk : kv_V Z d M (pc + 3) ls st (h.set b (.inl (xs.take n.toNatClampNeg ++ ys.drop n.toNatClampNeg))) r h') : kv_V Z d M pc ls (.int n :: .int 0 :: .ref b :: .int 0 :: .ref a :: st) h r h' := by
  have ely : (xs.take n.toNatClampNeg ++ ys.drop n.toNatClampNeg).length = ys.length := by simp; omega
  have el : (h.set b (.inl (xs.take n.toNatClampNeg ++ ys.drop n.toNatClampNeg))).length = h.length := List.length_set
  have es : kv_sl (h.set b (.inl (xs.take n.toNatClampNeg ++ ys.drop n.toNatClampNeg))) = kv_sl h := kv_sl_set h b _ _ hb0 (by simp only [kv_cs]; exact ely)
  have k1 := kk.1
  unfold kv_le at k1
  rw [el, es] at k1
  refine ⟨k1, fun n0 k0 p e s m args below meth c H locs L g1 g2 g3 g4 g5 g6 => ?_⟩
  obtain ⟨hx, hb, hrt, hlk, hml, hown, hts, hK, hsz, hnm⟩ := id g3
  refine va_copyi hx hb (hml.trans g6.1.symm) hown (hts _ (kv_up hl)) (hts _ (kv_up hnat)) (hts _ (kv_up hst)) (hts _ (kv_up hini)) hK.1 g4 (kv_w_D Z h) g5 a b 0 0 (kv_w_get ha) (kv_w_get hb0) rfl rfl rfl (by decide) (by decide) hn (by simpa using hx1) (by simpa using hy1) (fun i _ => rfl) (by simp [kv_R]) ?_ hd (fun H1 locs1 q1 q2 q3 => ?_)
  · rw [kv_cats]
    have e5 : nativeFrameWords "java/lang/System" "arraycopy" 5 ≤ 40 := by decide +kernel
    simp only [kv_R]
    omega
  · have q1 : va_P (kv_D Z) vwCl (kv_w Z (h.set b (.inl (xs.take n.toNatClampNeg ++ ys.drop n.toNatClampNeg)))) H1 := by
      have e2 : (kv_b Z + b, (.inl (kv_I Z, ys.length, .inl (va_cpy (fun k => xs.getD k 0) (fun k => ys.getD k 0) (0 : Int32).toNatClampNeg (0 : Int32).toNatClampNeg n.toNatClampNeg)) : va_E)) = (kv_b Z + b, kv_cv Z (.inl (xs.take n.toNatClampNeg ++ ys.drop n.toNatClampNeg))) := by
        show _ = (kv_b Z + b, (.inl (kv_I Z, (xs.take n.toNatClampNeg ++ ys.drop n.toNatClampNeg).length, .inl (fun k => (xs.take n.toNatClampNeg ++ ys.drop n.toNatClampNeg).getD k 0)) : va_E))
        rw [ely]
        congr 5
        funext k
        show (if (0 : Int32).toNatClampNeg ≤ k ∧ k < (0 : Int32).toNatClampNeg + n.toNatClampNeg then xs.getD ((0 : Int32).toNatClampNeg + (k - (0 : Int32).toNatClampNeg)) 0 else ys.getD k 0) = _
        rw [show (0 : Int32).toNatClampNeg = 0 from by decide]
        simp only [Nat.zero_le, true_and, Nat.zero_add, Nat.sub_zero]
        by_cases hk : k < n.toNatClampNeg
        · rw [if_pos hk]
          simp only [List.getD_eq_getElem?_getD]
          rw [List.getElem?_append_left (by simp; omega), List.getElem?_take_of_lt hk]
        · rw [if_neg hk]
          simp only [List.getD_eq_getElem?_getD]
          rw [List.getElem?_append_right (by simp; omega), List.getElem?_drop]
          congr 2
          simp
          omega
      rw [e2, kv_w_set] at q1
      exact q1
    have := kk.2 n0 k0 p e s m args below meth c H1 locs1 L (by rw [el]; exact g1) (by rw [es]; exact g2) g3 q1 q3 g6
    rw [el, es] at this
    exact this
/-- a trick put into a row -/
theorem kr_aast {a x ci N : Nat} {C : String} {T : u_T} {xs : List (Option Nat)} {fs : List Value} {i : Int32} (ha : h[a]? = some (.inr (.inl xs))) (hv : h[x]? = some (.inr (.inr (ci, fs)))) (hc : vwCl[ci]? = some (C, T, N)) (hca : C = RX8 ∨ (C, RX8) ∈ kv_can) (hi : vp_in i xs.length) (hd : decode M.2.1 pc = .ok (.aastore, 1)) (kk : kv_V Z d M (pc + 1) ls st (h.set a (.inr (.inl (xs.set i.toNatClampNeg (some x))))) r h') : kv_V Z d M pc ls (.ref x :: .int i :: .ref a :: st) h r h' := by
  have hlt : i.toNatClampNeg < xs.length := Nat.not_le.mp fun q => hi (Or.inr q)
  have el : (h.set a (.inr (.inl (xs.set i.toNatClampNeg (some x))))).length = h.length := List.length_set
  have es : kv_sl (h.set a (.inr (.inl (xs.set i.toNatClampNeg (some x))))) = kv_sl h := kv_sl_set h a _ _ ha (by simp [kv_cs])
  have k1 := kk.1
  unfold kv_le at k1
  rw [el, es] at k1
  refine ⟨k1, fun n0 k0 p e s m args below meth c H locs L g1 g2 g3 g4 g5 g6 => ?_⟩
  obtain ⟨hx, hb, hrt, hlk, hml, hown, hts, hK, hsz, hnm⟩ := id g3
  have fin : ∀ (H1 : Heap) (locs1 : List Loc), va_P (kv_D Z) vwCl ((kv_w Z h).set a (kv_b Z + a, .inl (kv_T Z, xs.length, .inr (.inr (.inr (.inr (va_up (fun k => (xs.getD k none).map (kv_b Z + ·)) i.toNatClampNeg (some (kv_b Z + x))))))))) H1 → va_S (kv_A Z) s.heap H1 locs1 → W p Z.1 e (kv_R d (h'.length - n0) (kv_sl h' - k0)) s m args below meth c H1 locs1 (h.length - n0) (kv_sl h - k0) (MQ below (kv_Q Z r h') args s (h'.length - n0) (kv_sl h' - k0) (kv_A Z)) (F0 m (pc + 1) L (st.map (kv_r Z))) := by
    intro H1 locs1 q1 q3
    have e2 : (kv_b Z + a, (.inl (kv_T Z, xs.length, .inr (.inr (.inr (.inr (va_up (fun k => (xs.getD k none).map (kv_b Z + ·)) i.toNatClampNeg (some (kv_b Z + x))))))) : va_E)) = (kv_b Z + a, kv_cv Z (.inr (.inl (xs.set i.toNatClampNeg (some x))))) := by
      show _ = (kv_b Z + a, (.inl (kv_T Z, (xs.set i.toNatClampNeg (some x)).length, .inr (.inr (.inr (.inr (fun k => ((xs.set i.toNatClampNeg (some x)).getD k none).map (kv_b Z + ·)))))) : va_E))
      rw [List.length_set]
      congr 8
      funext k
      by_cases hk : k = i.toNatClampNeg
      · subst hk
        simp [va_up, List.getD_eq_getElem?_getD, hlt]
      · simp [va_up, hk, List.getD_eq_getElem?_getD, List.getElem?_set_ne (Ne.symm hk)]
    rw [e2, kv_w_set] at q1
    have := kk.2 n0 k0 p e s m args below meth c H1 locs1 L (by rw [el]; exact g1) (by rw [es]; exact g2) g3 q1 q3 g6
    rw [el, es] at this
    exact this
  rcases hca with e8 | e8
  · subst e8
    exact va_astq hx hb hK.1 g4 (kv_w_D Z h) g5 a 1 x ci (kv_w_get ha) rfl (kv_w_get hv) hc hi hd (fun H1 locs1 q1 q2 q3 => fin H1 locs1 q1 q3)
  · exact va_astqO (E := RX8) hx hb hK.1 g4 (kv_w_D Z h) g5 a 1 x ci (kv_w_get ha) rfl (hK.2.2.2.1 _ e8) (kv_w_get hv) hc hi hd (fun H1 locs1 q1 q2 q3 => fin H1 locs1 q1 q3)
theorem kr_instNo {a ci N : Nat} {C nm : String} {T : u_T} {fs : List Value} (ha : h[a]? = some (.inr (.inr (ci, fs)))) (hc : vwCl[ci]? = some (C, T, N)) (hl : Cond.classLink M.1.cls index nm ∈ kv_W) (hno : (C, nm) ∈ kv_cannot) (hd : decode M.2.1 pc = .ok (.instanceof index, 3)) (kk : kv_V Z d M (pc + 3) ls (.int 0 :: st) h r h') : kv_V Z d M pc ls (.ref a :: st) h r h' := by
  refine ⟨kk.1, fun n0 k0 p e s m args below meth c H locs L g1 g2 g3 g4 g5 g6 => ?_⟩
  obtain ⟨hx, hb, hrt, hlk, hml, hown, hts, hK, hsz, hnm⟩ := id g3
  exact va_instNo hx hb hown (hts _ (kv_up hl)) (hK.2.2.2.2.1 _ hno) (va_recv hK.1 g4 hc (kv_w_get ha)) hd (kk.2 n0 k0 p e s m args below meth c H locs L g1 g2 g3 g4 g5 g6)
theorem kr_instYes {a ci N : Nat} {C nm : String} {T : u_T} {fs : List Value} (ha : h[a]? = some (.inr (.inr (ci, fs)))) (hc : vwCl[ci]? = some (C, T, N)) (hl : Cond.classLink M.1.cls index nm ∈ kv_W) (hca : C = nm ∨ (C, nm) ∈ kv_can) (hd : decode M.2.1 pc = .ok (.instanceof index, 3)) (kk : kv_V Z d M (pc + 3) ls (.int 1 :: st) h r h') : kv_V Z d M pc ls (.ref a :: st) h r h' := by
  refine ⟨kk.1, fun n0 k0 p e s m args below meth c H locs L g1 g2 g3 g4 g5 g6 => ?_⟩
  obtain ⟨hx, hb, hrt, hlk, hml, hown, hts, hK, hsz, hnm⟩ := id g3
  rcases hca with e8 | e8
  · subst e8
    exact va_instE hx hb hown (hts _ (kv_up hl)) (va_recv hK.1 g4 hc (kv_w_get ha)) hd (kk.2 n0 k0 p e s m args below meth c H locs L g1 g2 g3 g4 g5 g6)
  · exact va_instY hx hb hown (hts _ (kv_up hl)) (hK.2.2.2.1 _ e8) (va_recv hK.1 g4 hc (kv_w_get ha)) hd (kk.2 n0 k0 p e s m args below meth c H locs L g1 g2 g3 g4 g5 g6)
end KN
end
section
theorem zz_end : True := trivial
end
