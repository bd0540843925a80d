section
-- ===== PART A: goes FIRST, ahead of the names: the tables' words, and 'selects' of the private methods out of them =====
/-- a private method of a class that the tables say can be made, by its rows of tables_1 -/
def lw_okq (q : MethodName × Nat) : Prop := (q.1.cls ≠ "java/lang/invoke/MethodHandle" ∧ q.1.cls ≠ "java/lang/invoke/VarHandle") ∧ Cond.instantiable q.1.cls q.2 ∈ tables_1 ∧ Cond.privateMethod q.1 ∈ tables_1 ∧ Cond.instanceMethod q.1 ∈ tables_1
theorem lw_p0 : lw_okq (⟨"GateChoir$Fen", "takes", "(II)Z"⟩, 13) := ⟨⟨by decide +kernel, by decide +kernel⟩, List.mem_of_getElem? (i := 21) (by decide +kernel), List.mem_of_getElem? (i := 287) (by decide +kernel), List.mem_of_getElem? (i := 288) (by decide +kernel)⟩
theorem lw_p1 : lw_okq (⟨"GateChoir$Fen", "mayStart", "(I)Z"⟩, 13) := ⟨⟨by decide +kernel, by decide +kernel⟩, List.mem_of_getElem? (i := 21) (by decide +kernel), List.mem_of_getElem? (i := 291) (by decide +kernel), List.mem_of_getElem? (i := 292) (by decide +kernel)⟩
theorem lw_p2 : lw_okq (⟨"GateChoir$Fen", "goesOn", "(I)Z"⟩, 13) := ⟨⟨by decide +kernel, by decide +kernel⟩, List.mem_of_getElem? (i := 21) (by decide +kernel), List.mem_of_getElem? (i := 295) (by decide +kernel), List.mem_of_getElem? (i := 296) (by decide +kernel)⟩
theorem lw_p3 : lw_okq (⟨"GateChoir$Fen", "takesGate", "(I)Z"⟩, 13) := ⟨⟨by decide +kernel, by decide +kernel⟩, List.mem_of_getElem? (i := 21) (by decide +kernel), List.mem_of_getElem? (i := 299) (by decide +kernel), List.mem_of_getElem? (i := 300) (by decide +kernel)⟩
theorem lw_p4 : lw_okq (⟨"GateChoir$Fen", "takesLane", "(I)Z"⟩, 13) := ⟨⟨by decide +kernel, by decide +kernel⟩, List.mem_of_getElem? (i := 21) (by decide +kernel), List.mem_of_getElem? (i := 309) (by decide +kernel), List.mem_of_getElem? (i := 310) (by decide +kernel)⟩
theorem lw_p5 : lw_okq (⟨"GateChoir$Fen", "takesBeast", "(I)Z"⟩, 13) := ⟨⟨by decide +kernel, by decide +kernel⟩, List.mem_of_getElem? (i := 21) (by decide +kernel), List.mem_of_getElem? (i := 317) (by decide +kernel), List.mem_of_getElem? (i := 318) (by decide +kernel)⟩
theorem lw_p6 : lw_okq (⟨"GateChoir$Fen", "takesVerse", "(I)Z"⟩, 13) := ⟨⟨by decide +kernel, by decide +kernel⟩, List.mem_of_getElem? (i := 21) (by decide +kernel), List.mem_of_getElem? (i := 321) (by decide +kernel), List.mem_of_getElem? (i := 322) (by decide +kernel)⟩
theorem lw_p7 : lw_okq (⟨"GateChoir", "fitIn", "(LGateChoir$Moment;I)I"⟩, 15) := ⟨⟨by decide +kernel, by decide +kernel⟩, List.mem_of_getElem? (i := 13) (by decide +kernel), List.mem_of_getElem? (i := 493) (by decide +kernel), List.mem_of_getElem? (i := 494) (by decide +kernel)⟩
theorem lw_p8 : lw_okq (⟨"GateChoir$Search", "take", "(II)V"⟩, 4) := ⟨⟨by decide +kernel, by decide +kernel⟩, List.mem_of_getElem? (i := 161) (by decide +kernel), List.mem_of_getElem? (i := 529) (by decide +kernel), List.mem_of_getElem? (i := 530) (by decide +kernel)⟩
theorem lw_p9 : lw_okq (⟨"GateChoir", "sounds", "(I)Z"⟩, 15) := ⟨⟨by decide +kernel, by decide +kernel⟩, List.mem_of_getElem? (i := 13) (by decide +kernel), List.mem_of_getElem? (i := 555) (by decide +kernel), List.mem_of_getElem? (i := 556) (by decide +kernel)⟩
theorem lw_p10 : lw_okq (⟨"GateChoir", "doesDoing", "(LGateChoir$Moment;II)Z"⟩, 15) := ⟨⟨by decide +kernel, by decide +kernel⟩, List.mem_of_getElem? (i := 13) (by decide +kernel), List.mem_of_getElem? (i := 564) (by decide +kernel), List.mem_of_getElem? (i := 565) (by decide +kernel)⟩
theorem lw_p11 : lw_okq (⟨"GateChoir", "togglesOpen", "(LGateChoir$Moment;I)Z"⟩, 15) := ⟨⟨by decide +kernel, by decide +kernel⟩, List.mem_of_getElem? (i := 13) (by decide +kernel), List.mem_of_getElem? (i := 568) (by decide +kernel), List.mem_of_getElem? (i := 569) (by decide +kernel)⟩
theorem lw_p12 : lw_okq (⟨"GateChoir", "togglesOil", "(LGateChoir$Moment;I)Z"⟩, 15) := ⟨⟨by decide +kernel, by decide +kernel⟩, List.mem_of_getElem? (i := 13) (by decide +kernel), List.mem_of_getElem? (i := 572) (by decide +kernel), List.mem_of_getElem? (i := 573) (by decide +kernel)⟩
theorem lw_p13 : lw_okq (⟨"GateChoir", "turnsOut", "(LGateChoir$Moment;I)Z"⟩, 15) := ⟨⟨by decide +kernel, by decide +kernel⟩, List.mem_of_getElem? (i := 13) (by decide +kernel), List.mem_of_getElem? (i := 576) (by decide +kernel), List.mem_of_getElem? (i := 577) (by decide +kernel)⟩
theorem lw_p14 : lw_okq (⟨"GateChoir", "goesHome", "(LGateChoir$Moment;II)Z"⟩, 15) := ⟨⟨by decide +kernel, by decide +kernel⟩, List.mem_of_getElem? (i := 13) (by decide +kernel), List.mem_of_getElem? (i := 580) (by decide +kernel), List.mem_of_getElem? (i := 581) (by decide +kernel)⟩
theorem lw_p15 : lw_okq (⟨"GateChoir", "singersOf", "(II)I"⟩, 15) := ⟨⟨by decide +kernel, by decide +kernel⟩, List.mem_of_getElem? (i := 13) (by decide +kernel), List.mem_of_getElem? (i := 618) (by decide +kernel), List.mem_of_getElem? (i := 619) (by decide +kernel)⟩
def lw_privs_1 : List (MethodName × Nat) := [(⟨"GateChoir$Fen", "takes", "(II)Z"⟩, 13), (⟨"GateChoir$Fen", "mayStart", "(I)Z"⟩, 13), (⟨"GateChoir$Fen", "goesOn", "(I)Z"⟩, 13), (⟨"GateChoir$Fen", "takesGate", "(I)Z"⟩, 13), (⟨"GateChoir$Fen", "takesLane", "(I)Z"⟩, 13), (⟨"GateChoir$Fen", "takesBeast", "(I)Z"⟩, 13), (⟨"GateChoir$Fen", "takesVerse", "(I)Z"⟩, 13), (⟨"GateChoir", "fitIn", "(LGateChoir$Moment;I)I"⟩, 15), (⟨"GateChoir$Search", "take", "(II)V"⟩, 4), (⟨"GateChoir", "sounds", "(I)Z"⟩, 15), (⟨"GateChoir", "doesDoing", "(LGateChoir$Moment;II)Z"⟩, 15), (⟨"GateChoir", "togglesOpen", "(LGateChoir$Moment;I)Z"⟩, 15), (⟨"GateChoir", "togglesOil", "(LGateChoir$Moment;I)Z"⟩, 15), (⟨"GateChoir", "turnsOut", "(LGateChoir$Moment;I)Z"⟩, 15), (⟨"GateChoir", "goesHome", "(LGateChoir$Moment;II)Z"⟩, 15), (⟨"GateChoir", "singersOf", "(II)I"⟩, 15)]
theorem lw_r1 : ∀ q ∈ lw_privs_1, lw_okq q := List.forall_mem_cons.mpr ⟨lw_p0, List.forall_mem_cons.mpr ⟨lw_p1, List.forall_mem_cons.mpr ⟨lw_p2, List.forall_mem_cons.mpr ⟨lw_p3, List.forall_mem_cons.mpr ⟨lw_p4, List.forall_mem_cons.mpr ⟨lw_p5, List.forall_mem_cons.mpr ⟨lw_p6, List.forall_mem_cons.mpr ⟨lw_p7, List.forall_mem_cons.mpr ⟨lw_p8, List.forall_mem_cons.mpr ⟨lw_p9, List.forall_mem_cons.mpr ⟨lw_p10, List.forall_mem_cons.mpr ⟨lw_p11, List.forall_mem_cons.mpr ⟨lw_p12, List.forall_mem_cons.mpr ⟨lw_p13, List.forall_mem_cons.mpr ⟨lw_p14, List.forall_mem_cons.mpr ⟨lw_p15, fun _ h => absurd h List.not_mem_nil⟩⟩⟩⟩⟩⟩⟩⟩⟩⟩⟩⟩⟩⟩⟩⟩
theorem lw_p16 : lw_okq (⟨"GateChoir$Herdsmen", "isAtRest", "(III)Z"⟩, 4) := ⟨⟨by decide +kernel, by decide +kernel⟩, List.mem_of_getElem? (i := 202) (by decide +kernel), List.mem_of_getElem? (i := 645) (by decide +kernel), List.mem_of_getElem? (i := 646) (by decide +kernel)⟩
theorem lw_p17 : lw_okq (⟨"GateChoir", "tonesWhenOiled", "(III)I"⟩, 15) := ⟨⟨by decide +kernel, by decide +kernel⟩, List.mem_of_getElem? (i := 13) (by decide +kernel), List.mem_of_getElem? (i := 657) (by decide +kernel), List.mem_of_getElem? (i := 658) (by decide +kernel)⟩
theorem lw_p18 : lw_okq (⟨"GateChoir", "doChance", "(LGateChoir$Moment;I)I"⟩, 15) := ⟨⟨by decide +kernel, by decide +kernel⟩, List.mem_of_getElem? (i := 13) (by decide +kernel), List.mem_of_getElem? (i := 672) (by decide +kernel), List.mem_of_getElem? (i := 673) (by decide +kernel)⟩
theorem lw_p19 : lw_okq (⟨"GateChoirModel", "readText", "()I"⟩, 36) := ⟨⟨by decide +kernel, by decide +kernel⟩, List.mem_of_getElem? (i := 691) (by decide +kernel), List.mem_of_getElem? (i := 822) (by decide +kernel), List.mem_of_getElem? (i := 823) (by decide +kernel)⟩
theorem lw_p20 : lw_okq (⟨"GateChoirModel", "figure", "(II)I"⟩, 36) := ⟨⟨by decide +kernel, by decide +kernel⟩, List.mem_of_getElem? (i := 691) (by decide +kernel), List.mem_of_getElem? (i := 826) (by decide +kernel), List.mem_of_getElem? (i := 827) (by decide +kernel)⟩
theorem lw_p21 : lw_okq (⟨"GateChoirModel", "readPart", "(I)V"⟩, 36) := ⟨⟨by decide +kernel, by decide +kernel⟩, List.mem_of_getElem? (i := 691) (by decide +kernel), List.mem_of_getElem? (i := 830) (by decide +kernel), List.mem_of_getElem? (i := 831) (by decide +kernel)⟩
theorem lw_p22 : lw_okq (⟨"GateChoirModel", "letterTone", "(Z)I"⟩, 36) := ⟨⟨by decide +kernel, by decide +kernel⟩, List.mem_of_getElem? (i := 691) (by decide +kernel), List.mem_of_getElem? (i := 834) (by decide +kernel), List.mem_of_getElem? (i := 835) (by decide +kernel)⟩
theorem lw_p23 : lw_okq (⟨"GateChoirModel", "isGate", "(I)Z"⟩, 36) := ⟨⟨by decide +kernel, by decide +kernel⟩, List.mem_of_getElem? (i := 691) (by decide +kernel), List.mem_of_getElem? (i := 848) (by decide +kernel), List.mem_of_getElem? (i := 849) (by decide +kernel)⟩
theorem lw_p24 : lw_okq (⟨"GateChoirModel", "lanesOf", "(I)I"⟩, 36) := ⟨⟨by decide +kernel, by decide +kernel⟩, List.mem_of_getElem? (i := 691) (by decide +kernel), List.mem_of_getElem? (i := 852) (by decide +kernel), List.mem_of_getElem? (i := 853) (by decide +kernel)⟩
theorem lw_p25 : lw_okq (⟨"GateChoirModel", "isBeast", "(I)Z"⟩, 36) := ⟨⟨by decide +kernel, by decide +kernel⟩, List.mem_of_getElem? (i := 691) (by decide +kernel), List.mem_of_getElem? (i := 860) (by decide +kernel), List.mem_of_getElem? (i := 861) (by decide +kernel)⟩
theorem lw_p26 : lw_okq (⟨"GateChoirModel", "toneOf", "(IIII)I"⟩, 36) := ⟨⟨by decide +kernel, by decide +kernel⟩, List.mem_of_getElem? (i := 691) (by decide +kernel), List.mem_of_getElem? (i := 868) (by decide +kernel), List.mem_of_getElem? (i := 869) (by decide +kernel)⟩
theorem lw_p27 : lw_okq (⟨"GateChoirModel", "isLane", "(I)Z"⟩, 36) := ⟨⟨by decide +kernel, by decide +kernel⟩, List.mem_of_getElem? (i := 691) (by decide +kernel), List.mem_of_getElem? (i := 879) (by decide +kernel), List.mem_of_getElem? (i := 880) (by decide +kernel)⟩
theorem lw_p28 : lw_okq (⟨"GateChoirModel", "laySong", "(IIII)I"⟩, 36) := ⟨⟨by decide +kernel, by decide +kernel⟩, List.mem_of_getElem? (i := 691) (by decide +kernel), List.mem_of_getElem? (i := 884) (by decide +kernel), List.mem_of_getElem? (i := 885) (by decide +kernel)⟩
theorem lw_p29 : lw_okq (⟨"GateChoirModel", "sing", "(IIZ)V"⟩, 36) := ⟨⟨by decide +kernel, by decide +kernel⟩, List.mem_of_getElem? (i := 691) (by decide +kernel), List.mem_of_getElem? (i := 888) (by decide +kernel), List.mem_of_getElem? (i := 889) (by decide +kernel)⟩
theorem lw_p30 : lw_okq (⟨"GateChoirModel", "sungOn", "(II)I"⟩, 36) := ⟨⟨by decide +kernel, by decide +kernel⟩, List.mem_of_getElem? (i := 691) (by decide +kernel), List.mem_of_getElem? (i := 897) (by decide +kernel), List.mem_of_getElem? (i := 898) (by decide +kernel)⟩
theorem lw_p31 : lw_okq (⟨"GateChoirModel", "canDrive", "(III)Z"⟩, 36) := ⟨⟨by decide +kernel, by decide +kernel⟩, List.mem_of_getElem? (i := 691) (by decide +kernel), List.mem_of_getElem? (i := 905) (by decide +kernel), List.mem_of_getElem? (i := 906) (by decide +kernel)⟩
def lw_privs_2 : List (MethodName × Nat) := [(⟨"GateChoir$Herdsmen", "isAtRest", "(III)Z"⟩, 4), (⟨"GateChoir", "tonesWhenOiled", "(III)I"⟩, 15), (⟨"GateChoir", "doChance", "(LGateChoir$Moment;I)I"⟩, 15), (⟨"GateChoirModel", "readText", "()I"⟩, 36), (⟨"GateChoirModel", "figure", "(II)I"⟩, 36), (⟨"GateChoirModel", "readPart", "(I)V"⟩, 36), (⟨"GateChoirModel", "letterTone", "(Z)I"⟩, 36), (⟨"GateChoirModel", "isGate", "(I)Z"⟩, 36), (⟨"GateChoirModel", "lanesOf", "(I)I"⟩, 36), (⟨"GateChoirModel", "isBeast", "(I)Z"⟩, 36), (⟨"GateChoirModel", "toneOf", "(IIII)I"⟩, 36), (⟨"GateChoirModel", "isLane", "(I)Z"⟩, 36), (⟨"GateChoirModel", "laySong", "(IIII)I"⟩, 36), (⟨"GateChoirModel", "sing", "(IIZ)V"⟩, 36), (⟨"GateChoirModel", "sungOn", "(II)I"⟩, 36), (⟨"GateChoirModel", "canDrive", "(III)Z"⟩, 36)]
theorem lw_r2 : ∀ q ∈ lw_privs_2, lw_okq q := List.forall_mem_cons.mpr ⟨lw_p16, List.forall_mem_cons.mpr ⟨lw_p17, List.forall_mem_cons.mpr ⟨lw_p18, List.forall_mem_cons.mpr ⟨lw_p19, List.forall_mem_cons.mpr ⟨lw_p20, List.forall_mem_cons.mpr ⟨lw_p21, List.forall_mem_cons.mpr ⟨lw_p22, List.forall_mem_cons.mpr ⟨lw_p23, List.forall_mem_cons.mpr ⟨lw_p24, List.forall_mem_cons.mpr ⟨lw_p25, List.forall_mem_cons.mpr ⟨lw_p26, List.forall_mem_cons.mpr ⟨lw_p27, List.forall_mem_cons.mpr ⟨lw_p28, List.forall_mem_cons.mpr ⟨lw_p29, List.forall_mem_cons.mpr ⟨lw_p30, List.forall_mem_cons.mpr ⟨lw_p31, fun _ h => absurd h List.not_mem_nil⟩⟩⟩⟩⟩⟩⟩⟩⟩⟩⟩⟩⟩⟩⟩⟩
theorem lw_p32 : lw_okq (⟨"GateChoirModel", "keepAct", "()V"⟩, 36) := ⟨⟨by decide +kernel, by decide +kernel⟩, List.mem_of_getElem? (i := 691) (by decide +kernel), List.mem_of_getElem? (i := 909) (by decide +kernel), List.mem_of_getElem? (i := 910) (by decide +kernel)⟩
theorem lw_p33 : lw_okq (⟨"GateChoirModel", "driveOn", "(III)I"⟩, 36) := ⟨⟨by decide +kernel, by decide +kernel⟩, List.mem_of_getElem? (i := 691) (by decide +kernel), List.mem_of_getElem? (i := 913) (by decide +kernel), List.mem_of_getElem? (i := 914) (by decide +kernel)⟩
theorem lw_p34 : lw_okq (⟨"GateChoirModel", "addSung", "(II)V"⟩, 36) := ⟨⟨by decide +kernel, by decide +kernel⟩, List.mem_of_getElem? (i := 691) (by decide +kernel), List.mem_of_getElem? (i := 917) (by decide +kernel), List.mem_of_getElem? (i := 918) (by decide +kernel)⟩
theorem lw_p35 : lw_okq (⟨"GateChoirModel", "loud", "(II)I"⟩, 36) := ⟨⟨by decide +kernel, by decide +kernel⟩, List.mem_of_getElem? (i := 691) (by decide +kernel), List.mem_of_getElem? (i := 921) (by decide +kernel), List.mem_of_getElem? (i := 922) (by decide +kernel)⟩
theorem lw_p36 : lw_okq (⟨"GateChoirModel", "isVerse", "(I)Z"⟩, 36) := ⟨⟨by decide +kernel, by decide +kernel⟩, List.mem_of_getElem? (i := 691) (by decide +kernel), List.mem_of_getElem? (i := 956) (by decide +kernel), List.mem_of_getElem? (i := 957) (by decide +kernel)⟩
theorem lw_p37 : lw_okq (⟨"GateChoirModel", "fitOn", "(II)I"⟩, 36) := ⟨⟨by decide +kernel, by decide +kernel⟩, List.mem_of_getElem? (i := 691) (by decide +kernel), List.mem_of_getElem? (i := 960) (by decide +kernel), List.mem_of_getElem? (i := 961) (by decide +kernel)⟩
theorem lw_p38 : lw_okq (⟨"GateChoirModel", "harmonyOf", "(II)I"⟩, 36) := ⟨⟨by decide +kernel, by decide +kernel⟩, List.mem_of_getElem? (i := 691) (by decide +kernel), List.mem_of_getElem? (i := 968) (by decide +kernel), List.mem_of_getElem? (i := 969) (by decide +kernel)⟩
theorem lw_p39 : lw_okq (⟨"GateChoirModel", "bestFit", "(II)I"⟩, 36) := ⟨⟨by decide +kernel, by decide +kernel⟩, List.mem_of_getElem? (i := 691) (by decide +kernel), List.mem_of_getElem? (i := 983) (by decide +kernel), List.mem_of_getElem? (i := 984) (by decide +kernel)⟩
theorem lw_p40 : lw_okq (⟨"GateChoirModel", "driveRow", "(II)Z"⟩, 36) := ⟨⟨by decide +kernel, by decide +kernel⟩, List.mem_of_getElem? (i := 691) (by decide +kernel), List.mem_of_getElem? (i := 990) (by decide +kernel), List.mem_of_getElem? (i := 991) (by decide +kernel)⟩
theorem lw_p41 : lw_okq (⟨"GateChoirModel", "layTrial", "()V"⟩, 36) := ⟨⟨by decide +kernel, by decide +kernel⟩, List.mem_of_getElem? (i := 691) (by decide +kernel), List.mem_of_getElem? (i := 994) (by decide +kernel), List.mem_of_getElem? (i := 995) (by decide +kernel)⟩
theorem lw_p42 : lw_okq (⟨"GateChoirModel", "told", "(II)I"⟩, 36) := ⟨⟨by decide +kernel, by decide +kernel⟩, List.mem_of_getElem? (i := 691) (by decide +kernel), List.mem_of_getElem? (i := 998) (by decide +kernel), List.mem_of_getElem? (i := 999) (by decide +kernel)⟩
theorem lw_p43 : lw_okq (⟨"GateChoirModel", "tonesIn", "(II)I"⟩, 36) := ⟨⟨by decide +kernel, by decide +kernel⟩, List.mem_of_getElem? (i := 691) (by decide +kernel), List.mem_of_getElem? (i := 1010) (by decide +kernel), List.mem_of_getElem? (i := 1011) (by decide +kernel)⟩
theorem lw_p44 : lw_okq (⟨"GateChoirModel", "isSilent", "(II)Z"⟩, 36) := ⟨⟨by decide +kernel, by decide +kernel⟩, List.mem_of_getElem? (i := 691) (by decide +kernel), List.mem_of_getElem? (i := 1018) (by decide +kernel), List.mem_of_getElem? (i := 1019) (by decide +kernel)⟩
theorem lw_p45 : lw_okq (⟨"GateChoirModel", "tryThing", "(II)Z"⟩, 36) := ⟨⟨by decide +kernel, by decide +kernel⟩, List.mem_of_getElem? (i := 691) (by decide +kernel), List.mem_of_getElem? (i := 1027) (by decide +kernel), List.mem_of_getElem? (i := 1028) (by decide +kernel)⟩
theorem lw_p46 : lw_okq (⟨"GateChoirModel", "tonesBy", "(II)I"⟩, 36) := ⟨⟨by decide +kernel, by decide +kernel⟩, List.mem_of_getElem? (i := 691) (by decide +kernel), List.mem_of_getElem? (i := 1050) (by decide +kernel), List.mem_of_getElem? (i := 1051) (by decide +kernel)⟩
theorem lw_p47 : lw_okq (⟨"GateChoirModel", "isRest", "(IIII)Z"⟩, 36) := ⟨⟨by decide +kernel, by decide +kernel⟩, List.mem_of_getElem? (i := 691) (by decide +kernel), List.mem_of_getElem? (i := 1061) (by decide +kernel), List.mem_of_getElem? (i := 1062) (by decide +kernel)⟩
def lw_privs_3 : List (MethodName × Nat) := [(⟨"GateChoirModel", "keepAct", "()V"⟩, 36), (⟨"GateChoirModel", "driveOn", "(III)I"⟩, 36), (⟨"GateChoirModel", "addSung", "(II)V"⟩, 36), (⟨"GateChoirModel", "loud", "(II)I"⟩, 36), (⟨"GateChoirModel", "isVerse", "(I)Z"⟩, 36), (⟨"GateChoirModel", "fitOn", "(II)I"⟩, 36), (⟨"GateChoirModel", "harmonyOf", "(II)I"⟩, 36), (⟨"GateChoirModel", "bestFit", "(II)I"⟩, 36), (⟨"GateChoirModel", "driveRow", "(II)Z"⟩, 36), (⟨"GateChoirModel", "layTrial", "()V"⟩, 36), (⟨"GateChoirModel", "told", "(II)I"⟩, 36), (⟨"GateChoirModel", "tonesIn", "(II)I"⟩, 36), (⟨"GateChoirModel", "isSilent", "(II)Z"⟩, 36), (⟨"GateChoirModel", "tryThing", "(II)Z"⟩, 36), (⟨"GateChoirModel", "tonesBy", "(II)I"⟩, 36), (⟨"GateChoirModel", "isRest", "(IIII)Z"⟩, 36)]
theorem lw_r3 : ∀ q ∈ lw_privs_3, lw_okq q := List.forall_mem_cons.mpr ⟨lw_p32, List.forall_mem_cons.mpr ⟨lw_p33, List.forall_mem_cons.mpr ⟨lw_p34, List.forall_mem_cons.mpr ⟨lw_p35, List.forall_mem_cons.mpr ⟨lw_p36, List.forall_mem_cons.mpr ⟨lw_p37, List.forall_mem_cons.mpr ⟨lw_p38, List.forall_mem_cons.mpr ⟨lw_p39, List.forall_mem_cons.mpr ⟨lw_p40, List.forall_mem_cons.mpr ⟨lw_p41, List.forall_mem_cons.mpr ⟨lw_p42, List.forall_mem_cons.mpr ⟨lw_p43, List.forall_mem_cons.mpr ⟨lw_p44, List.forall_mem_cons.mpr ⟨lw_p45, List.forall_mem_cons.mpr ⟨lw_p46, List.forall_mem_cons.mpr ⟨lw_p47, fun _ h => absurd h List.not_mem_nil⟩⟩⟩⟩⟩⟩⟩⟩⟩⟩⟩⟩⟩⟩⟩⟩
theorem lw_p48 : lw_okq (⟨"GateChoirModel", "gain", "(IIII)I"⟩, 36) := ⟨⟨by decide +kernel, by decide +kernel⟩, List.mem_of_getElem? (i := 691) (by decide +kernel), List.mem_of_getElem? (i := 1065) (by decide +kernel), List.mem_of_getElem? (i := 1066) (by decide +kernel)⟩
def lw_privs_4 : List (MethodName × Nat) := [(⟨"GateChoirModel", "gain", "(IIII)I"⟩, 36)]
theorem lw_r4 : ∀ q ∈ lw_privs_4, lw_okq q := List.forall_mem_cons.mpr ⟨lw_p48, fun _ h => absurd h List.not_mem_nil⟩
def lw_privs : List (MethodName × Nat) := lw_privs_1 ++ (lw_privs_2 ++ (lw_privs_3 ++ (lw_privs_4)))
def lw_tbl : List Cond := k2_sels lw_privs ++ tables_1
theorem lw_privs_ok : ∀ q ∈ lw_privs, lw_okq q := by
  show ∀ q ∈ lw_privs_1 ++ (lw_privs_2 ++ (lw_privs_3 ++ (lw_privs_4))), lw_okq q
  exact List.forall_mem_append.mpr ⟨lw_r1, List.forall_mem_append.mpr ⟨lw_r2, List.forall_mem_append.mpr ⟨lw_r3, lw_r4⟩⟩⟩
-- ===== end of PART A; then your names; then what follows =====
end
section
/-! AN ABSTRACT MACHINE: cells by number (0: null, 1: the script, 2 and on: what was made), a shape each, and three maps of what they hold. 'gW' is the least predicate that is closed under its steps; part 05 shows that it is sound for the machine itself. -/
abbrev gS : Type := (Nat × (Nat → Nat)) × (Nat → Nat → Nat) × (Nat → Nat → Int32) × (Nat → Nat → Int64)
def gsz (σ : gS) : Nat := σ.1.1
def gsh (σ : gS) : Nat → Nat := σ.1.2
def grf (σ : gS) : Nat → Nat → Nat := σ.2.1
def git (σ : gS) : Nat → Nat → Int32 := σ.2.2.1
def glg (σ : gS) : Nat → Nat → Int64 := σ.2.2.2
def gu2 {α : Type} (f : Nat → Nat → α) (a j : Nat) (v : α) : Nat → Nat → α := fun a' j' => if a' = a ∧ j' = j then v else f a' j'
def gsI (σ : gS) (a j : Nat) (v : Int32) : gS := (σ.1, σ.2.1, gu2 σ.2.2.1 a j v, σ.2.2.2)
def gsL (σ : gS) (a j : Nat) (v : Int64) : gS := (σ.1, σ.2.1, σ.2.2.1, gu2 σ.2.2.2 a j v)
def gsR (σ : gS) (a j : Nat) (v : Nat) : gS := (σ.1, gu2 σ.2.1 a j v, σ.2.2.1, σ.2.2.2)
def gz1 {α : Type} (f : Nat → Nat → α) (a : Nat) (z : α) : Nat → Nat → α := fun a' j' => if a' = a then z else f a' j'
/-- a new cell of shape x: its number is gsz σ + 2, all that it holds is 0 -/
def gnw (σ : gS) (x : Nat) : gS := ((σ.1.1 + 1, fun a => if a = σ.1.1 + 2 then x else σ.1.2 a), gz1 σ.2.1 (σ.1.1 + 2) 0, gz1 σ.2.2.1 (σ.1.1 + 2) 0, gz1 σ.2.2.2 (σ.1.1 + 2) 0)
abbrev gP : Type := Option Value → gS → Prop
/-- a method: code, locals, arguments, class of its receiver, cells and slots that it makes at most -/
abbrev gI : Type := List Instr × Nat × Nat × Nat × Nat × Nat
abbrev gT : Type := Nat → gI
abbrev gK : Type := Nat → Nat → Nat → List Instr → Nat → List Value → List Value → gS → gP → Prop
def glay : List Value → List Value
  | [] => []
  | .long x :: r => .long x :: .null :: glay r
  | v :: r => v :: glay r
def gent (n : Nat) (as : List Value) : List Value := glay as ++ List.replicate (n - (glay as).length) .null
def gok (ls : List Value) (k : Nat) : Bool := match k with
  | 0 => true
  | k + 1 => match ls[k]? with
    | some (.long _) => false
    | some (.double _) => false
    | _ => true
def gcn (c : ClassFile.Cond) (x y : Int32) : Prop := match c with
  | .eq => x = y
  | .ne => ¬ x = y
  | .lt => x < y
  | .ge => y ≤ x
  | .gt => y < x
  | .le => x ≤ y
def gcat (r : List Value) : Nat := (r.map fun v => v.category).sum
def gtab (df lo hi : Int) (os : Array Int) (x : Int32) : Nat := if x.toInt < lo ∨ hi < x.toInt then df.toNat else (os.getD (x.toInt - lo).toNat df).toNat
def glook (df : Int) (ps : Array (Int × Int)) (x : Int32) : Nat := (Op.lookupswitch.offset ps.toList df x.toInt).toNat
def gkd (t : ArrayType) : Nat := match t with
  | .int => 0
  | .boolean => 1
  | _ => 3
def gi2 (K : gK) (f : Int32 → Int32 → Int32) (d mc ms : Nat) (C : List Instr) (i : Nat) (ls st : List Value) (σ : gS) (Q : gP) : Prop :=
  ∃ x y r, st = .int y :: .int x :: r ∧ K d mc ms C (i + 1) ls (.int (f x y) :: r) σ Q
def gl2 (K : gK) (f : Int64 → Int64 → Int64) (d mc ms : Nat) (C : List Instr) (i : Nat) (ls st : List Value) (σ : gS) (Q : gP) : Prop :=
  ∃ x y r, st = .long y :: .long x :: r ∧ K d mc ms C (i + 1) ls (.long (f x y) :: r) σ Q
/-- a call of method y with the arguments as, r below them -/
def gcal (M : gT) (K : gK) (y : Nat) (as r : List Value) (d mc ms : Nat) (C : List Instr) (i : Nat) (ls : List Value) (σ : gS) (Q : gP) : Prop :=
  as.length = (M y).2.2.1 ∧ gcat r ≤ 8 ∧ (M y).2.2.2.2.1 ≤ mc ∧ (M y).2.2.2.2.2 ≤ ms ∧ ∃ d' Q1, d = d' + 1 ∧
    K d' (M y).2.2.2.2.1 (M y).2.2.2.2.2 (M y).1 0 (gent (M y).2.1 as) [] σ Q1 ∧ ∀ v σ', Q1 v σ' → K d (mc - (M y).2.2.2.2.1) (ms - (M y).2.2.2.2.2) C (i + 1) ls (v.toList ++ r) σ' Q
def gstq (M : gT) (K : gK) (ins : Instr) (d mc ms : Nat) (C : List Instr) (i : Nat) (ls st : List Value) (σ : gS) (Q : gP) : Prop := match ins with
  | .iconst n => K d mc ms C (i + 1) ls (.int (Int32.ofInt n) :: st) σ Q
  | .ldc2_w n => K d mc ms C (i + 1) ls (.long (Int64.ofNat n) :: st) σ Q
  | .iload k => ∃ x, ls[k]? = some (.int x) ∧ K d mc ms C (i + 1) ls (.int x :: st) σ Q
  | .lload k => ∃ x, ls[k]? = some (.long x) ∧ K d mc ms C (i + 1) ls (.long x :: st) σ Q
  | .aload k => ∃ x, ls[k]? = some (.ref x) ∧ K d mc ms C (i + 1) ls (.ref x :: st) σ Q
  | .istore k => ∃ x r, st = .int x :: r ∧ gok ls k = true ∧ k < ls.length ∧ K d mc ms C (i + 1) (ls.set k (.int x)) r σ Q
  | .astore k => ∃ x r, st = .ref x :: r ∧ gok ls k = true ∧ k < ls.length ∧ K d mc ms C (i + 1) (ls.set k (.ref x)) r σ Q
  | .lstore k => ∃ x r, st = .long x :: r ∧ gok ls k = true ∧ k + 1 < ls.length ∧ K d mc ms C (i + 1) ((ls.set k (.long x)).set (k + 1) .null) r σ Q
  | .iinc k n => ∃ x, ls[k]? = some (.int x) ∧ gok ls k = true ∧ K d mc ms C (i + 1) (ls.set k (.int (x + Int32.ofInt n))) st σ Q
  | .getfield e => ∃ a r, st = .ref a :: r ∧ gsh σ a = e / 64 ∧ K d mc ms C (i + 1) ls (.int (git σ a (e % 64)) :: r) σ Q
  | .getstatic e => ∃ a r, st = .ref a :: r ∧ gsh σ a = e / 64 ∧ K d mc ms C (i + 1) ls (.ref (grf σ a (e % 64)) :: r) σ Q
  | .dload e => ∃ a r, st = .ref a :: r ∧ gsh σ a = e / 64 ∧ K d mc ms C (i + 1) ls (.long (glg σ a (e % 64)) :: r) σ Q
  | .putfield e => ∃ x a r, st = .int x :: .ref a :: r ∧ gsh σ a = e / 64 ∧ K d mc ms C (i + 1) ls r (gsI σ a (e % 64) x) Q
  | .putstatic e => ∃ x a r, st = .ref x :: .ref a :: r ∧ gsh σ a = e / 64 ∧ K d mc ms C (i + 1) ls r (gsR σ a (e % 64) x) Q
  | .dstore e => ∃ x a r, st = .long x :: .ref a :: r ∧ gsh σ a = e / 64 ∧ K d mc ms C (i + 1) ls r (gsL σ a (e % 64) x) Q
  | .iaload => ∃ j a r n, st = .int j :: .ref a :: r ∧ gsh σ a = 100 + 3 * n ∧ vp_in j n ∧ K d mc ms C (i + 1) ls (.int (git σ a j.toNatClampNeg) :: r) σ Q
  | .baload => ∃ j a r n, st = .int j :: .ref a :: r ∧ gsh σ a = 101 + 3 * n ∧ vp_in j n ∧ K d mc ms C (i + 1) ls (.int (git σ a j.toNatClampNeg) :: r) σ Q
  | .aaload => ∃ j a r n, st = .int j :: .ref a :: r ∧ gsh σ a = 102 + 3 * n ∧ vp_in j n ∧ K d mc ms C (i + 1) ls (.ref (grf σ a j.toNatClampNeg) :: r) σ Q
  | .iastore => ∃ x j a r n, st = .int x :: .int j :: .ref a :: r ∧ gsh σ a = 100 + 3 * n ∧ a ≠ 1 ∧ vp_in j n ∧ K d mc ms C (i + 1) ls r (gsI σ a j.toNatClampNeg x) Q
  | .bastore => ∃ x j a r n, st = .int x :: .int j :: .ref a :: r ∧ gsh σ a = 101 + 3 * n ∧ (x = 0 ∨ x = 1) ∧ vp_in j n ∧ K d mc ms C (i + 1) ls r (gsI σ a j.toNatClampNeg x) Q
  | .aastore => ∃ x j a r n, st = .ref x :: .int j :: .ref a :: r ∧ gsh σ a = 102 + 3 * n ∧ gsh σ x = 4 ∧ vp_in j n ∧ K d mc ms C (i + 1) ls r (gsR σ a j.toNatClampNeg x) Q
  | .arraylength => ∃ a r n k, st = .ref a :: r ∧ gsh σ a = 100 + k + 3 * n ∧ k < 3 ∧ K d mc ms C (i + 1) ls (.int (Int32.ofNat n) :: r) σ Q
  | .new e => 1 ≤ mc ∧ e % 64 ≤ ms ∧ K d (mc - 1) (ms - e % 64) C (i + 1) ls (.ref (gsz σ + 2) :: st) (gnw σ (e / 64)) Q
  | .newarray t => ∃ n r N, st = .int n :: r ∧ n = Int32.ofNat N ∧ N ≤ 1000 ∧ gkd t < 3 ∧ 1 ≤ mc ∧ N ≤ ms ∧ K d (mc - 1) (ms - N) C (i + 1) ls (.ref (gsz σ + 2) :: r) (gnw σ (100 + gkd t + 3 * N)) Q
  | .anewarray _ => ∃ n r N, st = .int n :: r ∧ n = Int32.ofNat N ∧ N ≤ 1000 ∧ 1 ≤ mc ∧ N ≤ ms ∧ K d (mc - 1) (ms - N) C (i + 1) ls (.ref (gsz σ + 2) :: r) (gnw σ (102 + 3 * N)) Q
  | .monitorexit => ∃ a r, st = .ref a :: r ∧ gsh σ a < 99 ∧ 1 ≤ d ∧ gcat r ≤ 8 ∧ K d mc ms C (i + 1) ls r σ Q
  | .iadd => gi2 K (fun x y => x + y) d mc ms C i ls st σ Q
  | .isub => gi2 K (fun x y => x - y) d mc ms C i ls st σ Q
  | .imul => gi2 K (fun x y => x * y) d mc ms C i ls st σ Q
  | .iand => gi2 K (fun x y => x &&& y) d mc ms C i ls st σ Q
  | .ior => gi2 K (fun x y => x ||| y) d mc ms C i ls st σ Q
  | .ixor => gi2 K (fun x y => x ^^^ y) d mc ms C i ls st σ Q
  | .ishl => gi2 K (fun x y => x <<< (y &&& 31)) d mc ms C i ls st σ Q
  | .ishr => gi2 K (fun x y => x >>> (y &&& 31)) d mc ms C i ls st σ Q
  | .iushr => gi2 K (fun x y => (x.toUInt32 >>> (y.toUInt32 &&& Int32.toUInt32 31)).toInt32) d mc ms C i ls st σ Q
  | .idiv => ∃ x y r, st = .int y :: .int x :: r ∧ ¬ y = 0 ∧ K d mc ms C (i + 1) ls (.int (x / y) :: r) σ Q
  | .irem => ∃ x y r, st = .int y :: .int x :: r ∧ ¬ y = 0 ∧ K d mc ms C (i + 1) ls (.int (x - x / y * y) :: r) σ Q
  | .ineg => ∃ x r, st = .int x :: r ∧ K d mc ms C (i + 1) ls (.int (-x) :: r) σ Q
  | .ladd => gl2 K (fun x y => x + y) d mc ms C i ls st σ Q
  | .lmul => gl2 K (fun x y => x * y) d mc ms C i ls st σ Q
  | .land => gl2 K (fun x y => x &&& y) d mc ms C i ls st σ Q
  | .lor => gl2 K (fun x y => x ||| y) d mc ms C i ls st σ Q
  | .lrem => ∃ x y r, st = .long y :: .long x :: r ∧ ¬ y = 0 ∧ K d mc ms C (i + 1) ls (.long (x - x / y * y) :: r) σ Q
  | .lushr => ∃ x y r, st = .int y :: .long x :: r ∧ K d mc ms C (i + 1) ls (.long (x.toUInt64 >>> (y.toInt64.toUInt64 &&& Int64.toUInt64 63)).toInt64 :: r) σ Q
  | .lshl => ∃ x y r, st = .int y :: .long x :: r ∧ K d mc ms C (i + 1) ls (.long (x <<< (y.toInt64 &&& 63)) :: r) σ Q
  | .lcmp => ∃ x y r, st = .long y :: .long x :: r ∧ K d mc ms C (i + 1) ls (.int (lg_cmp x y) :: r) σ Q
  | .i2l => ∃ x r, st = .int x :: r ∧ K d mc ms C (i + 1) ls (.long x.toInt64 :: r) σ Q
  | .l2i => ∃ x r, st = .long x :: r ∧ K d mc ms C (i + 1) ls (.int x.toInt32 :: r) σ Q
  | .dup => ∃ v r, st = v :: r ∧ v.category = 1 ∧ K d mc ms C (i + 1) ls (v :: v :: r) σ Q
  | .dup2 => ∃ v w r, st = v :: w :: r ∧ v.category = 1 ∧ w.category = 1 ∧ K d mc ms C (i + 1) ls (v :: w :: v :: w :: r) σ Q
  | .pop => ∃ v r, st = v :: r ∧ v.category = 1 ∧ K d mc ms C (i + 1) ls r σ Q
  | .ireturn => ∃ x, st = [.int x] ∧ Q (some (.int x)) σ
  | .freturn => ∃ x, st = [.int x] ∧ (x = 0 ∨ x = 1) ∧ Q (some (.int x)) σ
  | .lreturn => ∃ x, st = [.long x] ∧ Q (some (.long x)) σ
  | .return_ => st = [] ∧ Q none σ
  | .if_icmp c t => ∃ x y r, st = .int y :: .int x :: r ∧ (gcn c x y → K d mc ms C t.toNat ls r σ Q) ∧ (¬ gcn c x y → K d mc ms C (i + 1) ls r σ Q)
  | .ifCond c t => ∃ x r, st = .int x :: r ∧ (gcn c x 0 → K d mc ms C t.toNat ls r σ Q) ∧ (¬ gcn c x 0 → K d mc ms C (i + 1) ls r σ Q)
  | .goto t => K d mc ms C t.toNat ls st σ Q
  | .tableswitch df lo hi os => ∃ x r, st = .int x :: r ∧ K d mc ms C (gtab df lo hi os x) ls r σ Q
  | .lookupswitch df ps => ∃ x r, st = .int x :: r ∧ K d mc ms C (glook df ps x) ls r σ Q
  | .invokestatic y => ∃ as r, st = as.reverse ++ r ∧ gcal M K y as r d mc ms C i ls σ Q
  | .invokevirtual y => ∃ a as r, st = as.reverse ++ .ref a :: r ∧ gsh σ a = (M y).2.2.2.1 ∧ gcal M K y (.ref a :: as) r d mc ms C i ls σ Q
  | .invokespecial y => ∃ a as r, st = as.reverse ++ .ref a :: r ∧ gsh σ a = (M y).2.2.2.1 ∧ gcal M K y (.ref a :: as) r d mc ms C i ls σ Q
  | _ => False
def gstp (M : gT) (K : gK) : gK := fun d mc ms C i ls st σ Q => ∃ ins, C[i]? = some ins ∧ gstq M K ins d mc ms C i ls st σ Q
/-- the least predicate that is closed under the steps -/
def gW (M : gT) : gK := fun d mc ms C i ls st σ Q => ∀ X : gK, (∀ d mc ms C i ls st σ Q, gstp M X d mc ms C i ls st σ Q → X d mc ms C i ls st σ Q) → X d mc ms C i ls st σ Q
theorem gcal_mono {M : gT} {K K' : gK} (h : ∀ d mc ms C i ls st σ Q, K d mc ms C i ls st σ Q → K' d mc ms C i ls st σ Q) {y : Nat} {as r : List Value} {d mc ms : Nat} {C : List Instr} {i : Nat} {ls : List Value} {σ : gS} {Q : gP} (q : gcal M K y as r d mc ms C i ls σ Q) : gcal M K' y as r d mc ms C i ls σ Q := by
  obtain ⟨h1, h2, h3, h4, d', Q1, h5, h6, h7⟩ := q
  exact ⟨h1, h2, h3, h4, d', Q1, h5, h _ _ _ _ _ _ _ _ _ h6, fun v σ' q => h _ _ _ _ _ _ _ _ _ (h7 v σ' q)⟩
set_option maxHeartbeats 4000000 in
theorem gstq_mono {M : gT} {K K' : gK} (h : ∀ d mc ms C i ls st σ Q, K d mc ms C i ls st σ Q → K' d mc ms C i ls st σ Q) {ins : Instr} {d mc ms : Nat} {C : List Instr} {i : Nat} {ls st : List Value} {σ : gS} {Q : gP} (q : gstq M K ins d mc ms C i ls st σ Q) : gstq M K' ins d mc ms C i ls st σ Q := by
  cases ins <;> simp only [gstq, gi2, gl2] at q ⊢
  all_goals first
    | exact q
    | exact h _ _ _ _ _ _ _ _ _ q
    | (obtain ⟨a, q⟩ := q; first
        | exact ⟨a, h _ _ _ _ _ _ _ _ _ q⟩
        | (obtain ⟨b, q⟩ := q; first
          | exact ⟨a, b, h _ _ _ _ _ _ _ _ _ q⟩
          | (obtain ⟨c, q⟩ := q; first
            | exact ⟨a, b, c, h _ _ _ _ _ _ _ _ _ q⟩
            | exact ⟨a, b, c, gcal_mono h q⟩
            | (obtain ⟨d, q⟩ := q; first
              | exact ⟨a, b, c, d, h _ _ _ _ _ _ _ _ _ q⟩
              | exact ⟨a, b, c, fun z => h _ _ _ _ _ _ _ _ _ (d z), fun z => h _ _ _ _ _ _ _ _ _ (q z)⟩
              | (obtain ⟨e, q⟩ := q; first
                | exact ⟨a, b, c, d, e, h _ _ _ _ _ _ _ _ _ q⟩
                | exact ⟨a, b, c, d, e, gcal_mono h q⟩
                | exact ⟨a, b, c, d, fun z => h _ _ _ _ _ _ _ _ _ (e z), fun z => h _ _ _ _ _ _ _ _ _ (q z)⟩
                | (obtain ⟨f, q⟩ := q; first
                  | exact ⟨a, b, c, d, e, f, h _ _ _ _ _ _ _ _ _ q⟩
                  | (obtain ⟨g, q⟩ := q; first
                    | exact ⟨a, b, c, d, e, f, g, h _ _ _ _ _ _ _ _ _ q⟩
                    | (obtain ⟨g2, q⟩ := q; first
                      | exact ⟨a, b, c, d, e, f, g, g2, h _ _ _ _ _ _ _ _ _ q⟩
                      | (obtain ⟨g3, q⟩ := q; first
                        | exact ⟨a, b, c, d, e, f, g, g2, g3, h _ _ _ _ _ _ _ _ _ q⟩
                        | (obtain ⟨g4, q⟩ := q; exact ⟨a, b, c, d, e, f, g, g2, g3, g4, h _ _ _ _ _ _ _ _ _ q⟩))))))))))
theorem gW_of {M : gT} {d mc ms : Nat} {C : List Instr} {i : Nat} {ls st : List Value} {σ : gS} {Q : gP} {ins : Instr} (hc : C[i]? = some ins) (q : gstq M (gW M) ins d mc ms C i ls st σ Q) : gW M d mc ms C i ls st σ Q := by
  intro X hX
  exact hX _ _ _ _ _ _ _ _ _ ⟨ins, hc, gstq_mono (fun d mc ms C i ls st σ Q z => z X hX) q⟩
/-- a method's run: from its entry with these arguments -/
def gR (M : gT) (d y : Nat) (as : List Value) (σ : gS) (Q : gP) : Prop := gW M d (M y).2.2.2.2.1 (M y).2.2.2.2.2 (M y).1 0 (gent (M y).2.1 as) [] σ Q
end
