section
-- ===== PART A: goes FIRST, ahead of the names: the tables' words, and 'selects' of the private methods out of them =====
/-- a private method of a class that the tables say can be made, by its rows of tables_1 -/
def lw_okq (q : MethodName × Nat) : Prop := (q.1.cls ≠ "java/lang/invoke/MethodHandle" ∧ q.1.cls ≠ "java/lang/invoke/VarHandle") ∧ Cond.instantiable q.1.cls q.2 ∈ tables_1 ∧ Cond.privateMethod q.1 ∈ tables_1 ∧ Cond.instanceMethod q.1 ∈ tables_1
theorem lw_p0 : lw_okq (⟨"GateChoir$Fen", "takes", "(II)Z"⟩, 13) := ⟨⟨by decide +kernel, by decide +kernel⟩, List.mem_of_getElem? (i := 21) (by decide +kernel), List.mem_of_getElem? (i := 287) (by decide +kernel), List.mem_of_getElem? (i := 288) (by decide +kernel)⟩
theorem lw_p1 : lw_okq (⟨"GateChoir$Fen", "mayStart", "(I)Z"⟩, 13) := ⟨⟨by decide +kernel, by decide +kernel⟩, List.mem_of_getElem? (i := 21) (by decide +kernel), List.mem_of_getElem? (i := 291) (by decide +kernel), List.mem_of_getElem? (i := 292) (by decide +kernel)⟩
theorem lw_p2 : lw_okq (⟨"GateChoir$Fen", "goesOn", "(I)Z"⟩, 13) := ⟨⟨by decide +kernel, by decide +kernel⟩, List.mem_of_getElem? (i := 21) (by decide +kernel), List.mem_of_getElem? (i := 295) (by decide +kernel), List.mem_of_getElem? (i := 296) (by decide +kernel)⟩
theorem lw_p3 : lw_okq (⟨"GateChoir$Fen", "takesGate", "(I)Z"⟩, 13) := ⟨⟨by decide +kernel, by decide +kernel⟩, List.mem_of_getElem? (i := 21) (by decide +kernel), List.mem_of_getElem? (i := 299) (by decide +kernel), List.mem_of_getElem? (i := 300) (by decide +kernel)⟩
theorem lw_p4 : lw_okq (⟨"GateChoir$Fen", "takesLane", "(I)Z"⟩, 13) := ⟨⟨by decide +kernel, by decide +kernel⟩, List.mem_of_getElem? (i := 21) (by decide +kernel), List.mem_of_getElem? (i := 309) (by decide +kernel), List.mem_of_getElem? (i := 310) (by decide +kernel)⟩
theorem lw_p5 : lw_okq (⟨"GateChoir$Fen", "takesBeast", "(I)Z"⟩, 13) := ⟨⟨by decide +kernel, by decide +kernel⟩, List.mem_of_getElem? (i := 21) (by decide +kernel), List.mem_of_getElem? (i := 317) (by decide +kernel), List.mem_of_getElem? (i := 318) (by decide +kernel)⟩
theorem lw_p6 : lw_okq (⟨"GateChoir$Fen", "takesVerse", "(I)Z"⟩, 13) := ⟨⟨by decide +kernel, by decide +kernel⟩, List.mem_of_getElem? (i := 21) (by decide +kernel), List.mem_of_getElem? (i := 321) (by decide +kernel), List.mem_of_getElem? (i := 322) (by decide +kernel)⟩
theorem lw_p7 : lw_okq (⟨"GateChoir", "fitIn", "(LGateChoir$Moment;I)I"⟩, 15) := ⟨⟨by decide +kernel, by decide +kernel⟩, List.mem_of_getElem? (i := 13) (by decide +kernel), List.mem_of_getElem? (i := 493) (by decide +kernel), List.mem_of_getElem? (i := 494) (by decide +kernel)⟩
theorem lw_p8 : lw_okq (⟨"GateChoir$Search", "take", "(II)V"⟩, 4) := ⟨⟨by decide +kernel, by decide +kernel⟩, List.mem_of_getElem? (i := 161) (by decide +kernel), List.mem_of_getElem? (i := 529) (by decide +kernel), List.mem_of_getElem? (i := 530) (by decide +kernel)⟩
theorem lw_p9 : lw_okq (⟨"GateChoir", "sounds", "(I)Z"⟩, 15) := ⟨⟨by decide +kernel, by decide +kernel⟩, List.mem_of_getElem? (i := 13) (by decide +kernel), List.mem_of_getElem? (i := 555) (by decide +kernel), List.mem_of_getElem? (i := 556) (by decide +kernel)⟩
theorem lw_p10 : lw_okq (⟨"GateChoir", "doesDoing", "(LGateChoir$Moment;II)Z"⟩, 15) := ⟨⟨by decide +kernel, by decide +kernel⟩, List.mem_of_getElem? (i := 13) (by decide +kernel), List.mem_of_getElem? (i := 564) (by decide +kernel), List.mem_of_getElem? (i := 565) (by decide +kernel)⟩
theorem lw_p11 : lw_okq (⟨"GateChoir", "togglesOpen", "(LGateChoir$Moment;I)Z"⟩, 15) := ⟨⟨by decide +kernel, by decide +kernel⟩, List.mem_of_getElem? (i := 13) (by decide +kernel), List.mem_of_getElem? (i := 568) (by decide +kernel), List.mem_of_getElem? (i := 569) (by decide +kernel)⟩
theorem lw_p12 : lw_okq (⟨"GateChoir", "togglesOil", "(LGateChoir$Moment;I)Z"⟩, 15) := ⟨⟨by decide +kernel, by decide +kernel⟩, List.mem_of_getElem? (i := 13) (by decide +kernel), List.mem_of_getElem? (i := 572) (by decide +kernel), List.mem_of_getElem? (i := 573) (by decide +kernel)⟩
theorem lw_p13 : lw_okq (⟨"GateChoir", "turnsOut", "(LGateChoir$Moment;I)Z"⟩, 15) := ⟨⟨by decide +kernel, by decide +kernel⟩, List.mem_of_getElem? (i := 13) (by decide +kernel), List.mem_of_getElem? (i := 576) (by decide +kernel), List.mem_of_getElem? (i := 577) (by decide +kernel)⟩
theorem lw_p14 : lw_okq (⟨"GateChoir", "goesHome", "(LGateChoir$Moment;II)Z"⟩, 15) := ⟨⟨by decide +kernel, by decide +kernel⟩, List.mem_of_getElem? (i := 13) (by decide +kernel), List.mem_of_getElem? (i := 580) (by decide +kernel), List.mem_of_getElem? (i := 581) (by decide +kernel)⟩
theorem lw_p15 : lw_okq (⟨"GateChoir", "singersOf", "(II)I"⟩, 15) := ⟨⟨by decide +kernel, by decide +kernel⟩, List.mem_of_getElem? (i := 13) (by decide +kernel), List.mem_of_getElem? (i := 618) (by decide +kernel), List.mem_of_getElem? (i := 619) (by decide +kernel)⟩
def lw_privs_1 : List (MethodName × Nat) := [(⟨"GateChoir$Fen", "takes", "(II)Z"⟩, 13), (⟨"GateChoir$Fen", "mayStart", "(I)Z"⟩, 13), (⟨"GateChoir$Fen", "goesOn", "(I)Z"⟩, 13), (⟨"GateChoir$Fen", "takesGate", "(I)Z"⟩, 13), (⟨"GateChoir$Fen", "takesLane", "(I)Z"⟩, 13), (⟨"GateChoir$Fen", "takesBeast", "(I)Z"⟩, 13), (⟨"GateChoir$Fen", "takesVerse", "(I)Z"⟩, 13), (⟨"GateChoir", "fitIn", "(LGateChoir$Moment;I)I"⟩, 15), (⟨"GateChoir$Search", "take", "(II)V"⟩, 4), (⟨"GateChoir", "sounds", "(I)Z"⟩, 15), (⟨"GateChoir", "doesDoing", "(LGateChoir$Moment;II)Z"⟩, 15), (⟨"GateChoir", "togglesOpen", "(LGateChoir$Moment;I)Z"⟩, 15), (⟨"GateChoir", "togglesOil", "(LGateChoir$Moment;I)Z"⟩, 15), (⟨"GateChoir", "turnsOut", "(LGateChoir$Moment;I)Z"⟩, 15), (⟨"GateChoir", "goesHome", "(LGateChoir$Moment;II)Z"⟩, 15), (⟨"GateChoir", "singersOf", "(II)I"⟩, 15)]
theorem lw_r1 : ∀ q ∈ lw_privs_1, lw_okq q := List.forall_mem_cons.mpr ⟨lw_p0, List.forall_mem_cons.mpr ⟨lw_p1, List.forall_mem_cons.mpr ⟨lw_p2, List.forall_mem_cons.mpr ⟨lw_p3, List.forall_mem_cons.mpr ⟨lw_p4, List.forall_mem_cons.mpr ⟨lw_p5, List.forall_mem_cons.mpr ⟨lw_p6, List.forall_mem_cons.mpr ⟨lw_p7, List.forall_mem_cons.mpr ⟨lw_p8, List.forall_mem_cons.mpr ⟨lw_p9, List.forall_mem_cons.mpr ⟨lw_p10, List.forall_mem_cons.mpr ⟨lw_p11, List.forall_mem_cons.mpr ⟨lw_p12, List.forall_mem_cons.mpr ⟨lw_p13, List.forall_mem_cons.mpr ⟨lw_p14, List.forall_mem_cons.mpr ⟨lw_p15, fun _ h => absurd h List.not_mem_nil⟩⟩⟩⟩⟩⟩⟩⟩⟩⟩⟩⟩⟩⟩⟩⟩
theorem lw_p16 : lw_okq (⟨"GateChoir$Herdsmen", "isAtRest", "(III)Z"⟩, 4) := ⟨⟨by decide +kernel, by decide +kernel⟩, List.mem_of_getElem? (i := 202) (by decide +kernel), List.mem_of_getElem? (i := 645) (by decide +kernel), List.mem_of_getElem? (i := 646) (by decide +kernel)⟩
theorem lw_p17 : lw_okq (⟨"GateChoir", "tonesWhenOiled", "(III)I"⟩, 15) := ⟨⟨by decide +kernel, by decide +kernel⟩, List.mem_of_getElem? (i := 13) (by decide +kernel), List.mem_of_getElem? (i := 657) (by decide +kernel), List.mem_of_getElem? (i := 658) (by decide +kernel)⟩
theorem lw_p18 : lw_okq (⟨"GateChoir", "doChance", "(LGateChoir$Moment;I)I"⟩, 15) := ⟨⟨by decide +kernel, by decide +kernel⟩, List.mem_of_getElem? (i := 13) (by decide +kernel), List.mem_of_getElem? (i := 672) (by decide +kernel), List.mem_of_getElem? (i := 673) (by decide +kernel)⟩
theorem lw_p19 : lw_okq (⟨"GateChoirModel", "readText", "()I"⟩, 36) := ⟨⟨by decide +kernel, by decide +kernel⟩, List.mem_of_getElem? (i := 691) (by decide +kernel), List.mem_of_getElem? (i := 822) (by decide +kernel), List.mem_of_getElem? (i := 823) (by decide +kernel)⟩
theorem lw_p20 : lw_okq (⟨"GateChoirModel", "figure", "(II)I"⟩, 36) := ⟨⟨by decide +kernel, by decide +kernel⟩, List.mem_of_getElem? (i := 691) (by decide +kernel), List.mem_of_getElem? (i := 826) (by decide +kernel), List.mem_of_getElem? (i := 827) (by decide +kernel)⟩
theorem lw_p21 : lw_okq (⟨"GateChoirModel", "readPart", "(I)V"⟩, 36) := ⟨⟨by decide +kernel, by decide +kernel⟩, List.mem_of_getElem? (i := 691) (by decide +kernel), List.mem_of_getElem? (i := 830) (by decide +kernel), List.mem_of_getElem? (i := 831) (by decide +kernel)⟩
theorem lw_p22 : lw_okq (⟨"GateChoirModel", "letterTone", "(Z)I"⟩, 36) := ⟨⟨by decide +kernel, by decide +kernel⟩, List.mem_of_getElem? (i := 691) (by decide +kernel), List.mem_of_getElem? (i := 834) (by decide +kernel), List.mem_of_getElem? (i := 835) (by decide +kernel)⟩
theorem lw_p23 : lw_okq (⟨"GateChoirModel", "isGate", "(I)Z"⟩, 36) := ⟨⟨by decide +kernel, by decide +kernel⟩, List.mem_of_getElem? (i := 691) (by decide +kernel), List.mem_of_getElem? (i := 848) (by decide +kernel), List.mem_of_getElem? (i := 849) (by decide +kernel)⟩
theorem lw_p24 : lw_okq (⟨"GateChoirModel", "lanesOf", "(I)I"⟩, 36) := ⟨⟨by decide +kernel, by decide +kernel⟩, List.mem_of_getElem? (i := 691) (by decide +kernel), List.mem_of_getElem? (i := 852) (by decide +kernel), List.mem_of_getElem? (i := 853) (by decide +kernel)⟩
theorem lw_p25 : lw_okq (⟨"GateChoirModel", "isBeast", "(I)Z"⟩, 36) := ⟨⟨by decide +kernel, by decide +kernel⟩, List.mem_of_getElem? (i := 691) (by decide +kernel), List.mem_of_getElem? (i := 860) (by decide +kernel), List.mem_of_getElem? (i := 861) (by decide +kernel)⟩
theorem lw_p26 : lw_okq (⟨"GateChoirModel", "toneOf", "(IIII)I"⟩, 36) := ⟨⟨by decide +kernel, by decide +kernel⟩, List.mem_of_getElem? (i := 691) (by decide +kernel), List.mem_of_getElem? (i := 868) (by decide +kernel), List.mem_of_getElem? (i := 869) (by decide +kernel)⟩
theorem lw_p27 : lw_okq (⟨"GateChoirModel", "isLane", "(I)Z"⟩, 36) := ⟨⟨by decide +kernel, by decide +kernel⟩, List.mem_of_getElem? (i := 691) (by decide +kernel), List.mem_of_getElem? (i := 879) (by decide +kernel), List.mem_of_getElem? (i := 880) (by decide +kernel)⟩
theorem lw_p28 : lw_okq (⟨"GateChoirModel", "laySong", "(IIII)I"⟩, 36) := ⟨⟨by decide +kernel, by decide +kernel⟩, List.mem_of_getElem? (i := 691) (by decide +kernel), List.mem_of_getElem? (i := 884) (by decide +kernel), List.mem_of_getElem? (i := 885) (by decide +kernel)⟩
theorem lw_p29 : lw_okq (⟨"GateChoirModel", "sing", "(IIZ)V"⟩, 36) := ⟨⟨by decide +kernel, by decide +kernel⟩, List.mem_of_getElem? (i := 691) (by decide +kernel), List.mem_of_getElem? (i := 888) (by decide +kernel), List.mem_of_getElem? (i := 889) (by decide +kernel)⟩
theorem lw_p30 : lw_okq (⟨"GateChoirModel", "sungOn", "(II)I"⟩, 36) := ⟨⟨by decide +kernel, by decide +kernel⟩, List.mem_of_getElem? (i := 691) (by decide +kernel), List.mem_of_getElem? (i := 897) (by decide +kernel), List.mem_of_getElem? (i := 898) (by decide +kernel)⟩
theorem lw_p31 : lw_okq (⟨"GateChoirModel", "canDrive", "(III)Z"⟩, 36) := ⟨⟨by decide +kernel, by decide +kernel⟩, List.mem_of_getElem? (i := 691) (by decide +kernel), List.mem_of_getElem? (i := 905) (by decide +kernel), List.mem_of_getElem? (i := 906) (by decide +kernel)⟩
def lw_privs_2 : List (MethodName × Nat) := [(⟨"GateChoir$Herdsmen", "isAtRest", "(III)Z"⟩, 4), (⟨"GateChoir", "tonesWhenOiled", "(III)I"⟩, 15), (⟨"GateChoir", "doChance", "(LGateChoir$Moment;I)I"⟩, 15), (⟨"GateChoirModel", "readText", "()I"⟩, 36), (⟨"GateChoirModel", "figure", "(II)I"⟩, 36), (⟨"GateChoirModel", "readPart", "(I)V"⟩, 36), (⟨"GateChoirModel", "letterTone", "(Z)I"⟩, 36), (⟨"GateChoirModel", "isGate", "(I)Z"⟩, 36), (⟨"GateChoirModel", "lanesOf", "(I)I"⟩, 36), (⟨"GateChoirModel", "isBeast", "(I)Z"⟩, 36), (⟨"GateChoirModel", "toneOf", "(IIII)I"⟩, 36), (⟨"GateChoirModel", "isLane", "(I)Z"⟩, 36), (⟨"GateChoirModel", "laySong", "(IIII)I"⟩, 36), (⟨"GateChoirModel", "sing", "(IIZ)V"⟩, 36), (⟨"GateChoirModel", "sungOn", "(II)I"⟩, 36), (⟨"GateChoirModel", "canDrive", "(III)Z"⟩, 36)]
theorem lw_r2 : ∀ q ∈ lw_privs_2, lw_okq q := List.forall_mem_cons.mpr ⟨lw_p16, List.forall_mem_cons.mpr ⟨lw_p17, List.forall_mem_cons.mpr ⟨lw_p18, List.forall_mem_cons.mpr ⟨lw_p19, List.forall_mem_cons.mpr ⟨lw_p20, List.forall_mem_cons.mpr ⟨lw_p21, List.forall_mem_cons.mpr ⟨lw_p22, List.forall_mem_cons.mpr ⟨lw_p23, List.forall_mem_cons.mpr ⟨lw_p24, List.forall_mem_cons.mpr ⟨lw_p25, List.forall_mem_cons.mpr ⟨lw_p26, List.forall_mem_cons.mpr ⟨lw_p27, List.forall_mem_cons.mpr ⟨lw_p28, List.forall_mem_cons.mpr ⟨lw_p29, List.forall_mem_cons.mpr ⟨lw_p30, List.forall_mem_cons.mpr ⟨lw_p31, fun _ h => absurd h List.not_mem_nil⟩⟩⟩⟩⟩⟩⟩⟩⟩⟩⟩⟩⟩⟩⟩⟩
theorem lw_p32 : lw_okq (⟨"GateChoirModel", "keepAct", "()V"⟩, 36) := ⟨⟨by decide +kernel, by decide +kernel⟩, List.mem_of_getElem? (i := 691) (by decide +kernel), List.mem_of_getElem? (i := 909) (by decide +kernel), List.mem_of_getElem? (i := 910) (by decide +kernel)⟩
theorem lw_p33 : lw_okq (⟨"GateChoirModel", "driveOn", "(III)I"⟩, 36) := ⟨⟨by decide +kernel, by decide +kernel⟩, List.mem_of_getElem? (i := 691) (by decide +kernel), List.mem_of_getElem? (i := 913) (by decide +kernel), List.mem_of_getElem? (i := 914) (by decide +kernel)⟩
theorem lw_p34 : lw_okq (⟨"GateChoirModel", "addSung", "(II)V"⟩, 36) := ⟨⟨by decide +kernel, by decide +kernel⟩, List.mem_of_getElem? (i := 691) (by decide +kernel), List.mem_of_getElem? (i := 917) (by decide +kernel), List.mem_of_getElem? (i := 918) (by decide +kernel)⟩
theorem lw_p35 : lw_okq (⟨"GateChoirModel", "loud", "(II)I"⟩, 36) := ⟨⟨by decide +kernel, by decide +kernel⟩, List.mem_of_getElem? (i := 691) (by decide +kernel), List.mem_of_getElem? (i := 921) (by decide +kernel), List.mem_of_getElem? (i := 922) (by decide +kernel)⟩
theorem lw_p36 : lw_okq (⟨"GateChoirModel", "isVerse", "(I)Z"⟩, 36) := ⟨⟨by decide +kernel, by decide +kernel⟩, List.mem_of_getElem? (i := 691) (by decide +kernel), List.mem_of_getElem? (i := 956) (by decide +kernel), List.mem_of_getElem? (i := 957) (by decide +kernel)⟩
theorem lw_p37 : lw_okq (⟨"GateChoirModel", "fitOn", "(II)I"⟩, 36) := ⟨⟨by decide +kernel, by decide +kernel⟩, List.mem_of_getElem? (i := 691) (by decide +kernel), List.mem_of_getElem? (i := 960) (by decide +kernel), List.mem_of_getElem? (i := 961) (by decide +kernel)⟩
theorem lw_p38 : lw_okq (⟨"GateChoirModel", "harmonyOf", "(II)I"⟩, 36) := ⟨⟨by decide +kernel, by decide +kernel⟩, List.mem_of_getElem? (i := 691) (by decide +kernel), List.mem_of_getElem? (i := 968) (by decide +kernel), List.mem_of_getElem? (i := 969) (by decide +kernel)⟩
theorem lw_p39 : lw_okq (⟨"GateChoirModel", "bestFit", "(II)I"⟩, 36) := ⟨⟨by decide +kernel, by decide +kernel⟩, List.mem_of_getElem? (i := 691) (by decide +kernel), List.mem_of_getElem? (i := 983) (by decide +kernel), List.mem_of_getElem? (i := 984) (by decide +kernel)⟩
theorem lw_p40 : lw_okq (⟨"GateChoirModel", "driveRow", "(II)Z"⟩, 36) := ⟨⟨by decide +kernel, by decide +kernel⟩, List.mem_of_getElem? (i := 691) (by decide +kernel), List.mem_of_getElem? (i := 990) (by decide +kernel), List.mem_of_getElem? (i := 991) (by decide +kernel)⟩
theorem lw_p41 : lw_okq (⟨"GateChoirModel", "layTrial", "()V"⟩, 36) := ⟨⟨by decide +kernel, by decide +kernel⟩, List.mem_of_getElem? (i := 691) (by decide +kernel), List.mem_of_getElem? (i := 994) (by decide +kernel), List.mem_of_getElem? (i := 995) (by decide +kernel)⟩
theorem lw_p42 : lw_okq (⟨"GateChoirModel", "told", "(II)I"⟩, 36) := ⟨⟨by decide +kernel, by decide +kernel⟩, List.mem_of_getElem? (i := 691) (by decide +kernel), List.mem_of_getElem? (i := 998) (by decide +kernel), List.mem_of_getElem? (i := 999) (by decide +kernel)⟩
theorem lw_p43 : lw_okq (⟨"GateChoirModel", "tonesIn", "(II)I"⟩, 36) := ⟨⟨by decide +kernel, by decide +kernel⟩, List.mem_of_getElem? (i := 691) (by decide +kernel), List.mem_of_getElem? (i := 1010) (by decide +kernel), List.mem_of_getElem? (i := 1011) (by decide +kernel)⟩
theorem lw_p44 : lw_okq (⟨"GateChoirModel", "isSilent", "(II)Z"⟩, 36) := ⟨⟨by decide +kernel, by decide +kernel⟩, List.mem_of_getElem? (i := 691) (by decide +kernel), List.mem_of_getElem? (i := 1018) (by decide +kernel), List.mem_of_getElem? (i := 1019) (by decide +kernel)⟩
theorem lw_p45 : lw_okq (⟨"GateChoirModel", "tryThing", "(II)Z"⟩, 36) := ⟨⟨by decide +kernel, by decide +kernel⟩, List.mem_of_getElem? (i := 691) (by decide +kernel), List.mem_of_getElem? (i := 1027) (by decide +kernel), List.mem_of_getElem? (i := 1028) (by decide +kernel)⟩
theorem lw_p46 : lw_okq (⟨"GateChoirModel", "tonesBy", "(II)I"⟩, 36) := ⟨⟨by decide +kernel, by decide +kernel⟩, List.mem_of_getElem? (i := 691) (by decide +kernel), List.mem_of_getElem? (i := 1050) (by decide +kernel), List.mem_of_getElem? (i := 1051) (by decide +kernel)⟩
theorem lw_p47 : lw_okq (⟨"GateChoirModel", "isRest", "(IIII)Z"⟩, 36) := ⟨⟨by decide +kernel, by decide +kernel⟩, List.mem_of_getElem? (i := 691) (by decide +kernel), List.mem_of_getElem? (i := 1061) (by decide +kernel), List.mem_of_getElem? (i := 1062) (by decide +kernel)⟩
def lw_privs_3 : List (MethodName × Nat) := [(⟨"GateChoirModel", "keepAct", "()V"⟩, 36), (⟨"GateChoirModel", "driveOn", "(III)I"⟩, 36), (⟨"GateChoirModel", "addSung", "(II)V"⟩, 36), (⟨"GateChoirModel", "loud", "(II)I"⟩, 36), (⟨"GateChoirModel", "isVerse", "(I)Z"⟩, 36), (⟨"GateChoirModel", "fitOn", "(II)I"⟩, 36), (⟨"GateChoirModel", "harmonyOf", "(II)I"⟩, 36), (⟨"GateChoirModel", "bestFit", "(II)I"⟩, 36), (⟨"GateChoirModel", "driveRow", "(II)Z"⟩, 36), (⟨"GateChoirModel", "layTrial", "()V"⟩, 36), (⟨"GateChoirModel", "told", "(II)I"⟩, 36), (⟨"GateChoirModel", "tonesIn", "(II)I"⟩, 36), (⟨"GateChoirModel", "isSilent", "(II)Z"⟩, 36), (⟨"GateChoirModel", "tryThing", "(II)Z"⟩, 36), (⟨"GateChoirModel", "tonesBy", "(II)I"⟩, 36), (⟨"GateChoirModel", "isRest", "(IIII)Z"⟩, 36)]
theorem lw_r3 : ∀ q ∈ lw_privs_3, lw_okq q := List.forall_mem_cons.mpr ⟨lw_p32, List.forall_mem_cons.mpr ⟨lw_p33, List.forall_mem_cons.mpr ⟨lw_p34, List.forall_mem_cons.mpr ⟨lw_p35, List.forall_mem_cons.mpr ⟨lw_p36, List.forall_mem_cons.mpr ⟨lw_p37, List.forall_mem_cons.mpr ⟨lw_p38, List.forall_mem_cons.mpr ⟨lw_p39, List.forall_mem_cons.mpr ⟨lw_p40, List.forall_mem_cons.mpr ⟨lw_p41, List.forall_mem_cons.mpr ⟨lw_p42, List.forall_mem_cons.mpr ⟨lw_p43, List.forall_mem_cons.mpr ⟨lw_p44, List.forall_mem_cons.mpr ⟨lw_p45, List.forall_mem_cons.mpr ⟨lw_p46, List.forall_mem_cons.mpr ⟨lw_p47, fun _ h => absurd h List.not_mem_nil⟩⟩⟩⟩⟩⟩⟩⟩⟩⟩⟩⟩⟩⟩⟩⟩
theorem lw_p48 : lw_okq (⟨"GateChoirModel", "gain", "(IIII)I"⟩, 36) := ⟨⟨by decide +kernel, by decide +kernel⟩, List.mem_of_getElem? (i := 691) (by decide +kernel), List.mem_of_getElem? (i := 1065) (by decide +kernel), List.mem_of_getElem? (i := 1066) (by decide +kernel)⟩
def lw_privs_4 : List (MethodName × Nat) := [(⟨"GateChoirModel", "gain", "(IIII)I"⟩, 36)]
theorem lw_r4 : ∀ q ∈ lw_privs_4, lw_okq q := List.forall_mem_cons.mpr ⟨lw_p48, fun _ h => absurd h List.not_mem_nil⟩
def lw_privs : List (MethodName × Nat) := lw_privs_1 ++ (lw_privs_2 ++ (lw_privs_3 ++ (lw_privs_4)))
def lw_tbl : List Cond := k2_sels lw_privs ++ tables_1
theorem lw_privs_ok : ∀ q ∈ lw_privs, lw_okq q := by
  show ∀ q ∈ lw_privs_1 ++ (lw_privs_2 ++ (lw_privs_3 ++ (lw_privs_4))), lw_okq q
  exact List.forall_mem_append.mpr ⟨lw_r1, List.forall_mem_append.mpr ⟨lw_r2, List.forall_mem_append.mpr ⟨lw_r3, lw_r4⟩⟩⟩
-- ===== end of PART A; then your names; then what follows =====
end
section
/-! ===== BEGIN words of one list among another's, by their places ===== -/
theorem goodIn_r {big : List Cond} (ws : List Cond) (ps : List Nat) (hp : ws = ps.filterMap (fun i => big[i]?)) (h : ws.all goodWord = true) : GoodIn big ws := by
  intro w hw
  have h1 := List.all_eq_true.mp h w hw
  rw [hp] at hw
  obtain ⟨i, -, hi⟩ := List.mem_filterMap.mp hw
  have hm : w ∈ big := by first | exact List.mem_of_getElem? hi | exact List.getElem?_mem hi
  exact ⟨hm, good_of_word h1⟩
theorem goodIn_app {big a b : List Cond} (ha : GoodIn big a) (hb : GoodIn big b) : GoodIn big (a ++ b) := fun w h => (List.mem_append.mp h).elim (ha w) (hb w)
theorem goodIn_ca {big a b : List Cond} {c : Cond} (ha : GoodIn big (c :: a)) (hb : GoodIn big b) : GoodIn big (c :: (a ++ b)) := fun w h => (List.mem_cons.mp h).elim (fun e => ha w (List.mem_cons.mpr (Or.inl e))) (fun h => (List.mem_append.mp h).elim (fun h => ha w (List.mem_cons.mpr (Or.inr h))) (hb w))
theorem goodIn_sub {big ws : List Cond} (hm : ∀ w ∈ ws, w ∈ big) (h : ws.all goodWord = true) : GoodIn big ws := fun w hw => ⟨hm w hw, good_of_word (List.all_eq_true.mp h w hw)⟩
/-! ===== END ===== -/

/-! ===== BEGIN printed: names, fields, word lists, decode rows ===== -/
def RX0 : String := "GateChoir$Acts"
def TX0 : u_T := fun k => match k with
  | 0 => ("GateChoir$Acts", "ahead", "[LGateChoir$Moment;", true)
  | 1 => ("GateChoir$Acts", "first", "I", false)
  | _ => ("GateChoir$Acts", "count", "I", false)
def tyX0 : Nat → FieldType := fun k => match k with
  | 0 => .array (.object "GateChoir$Moment")
  | 1 => .int
  | _ => .int
abbrev wsX00 : List Cond := u_ws RX0 TX0 3
theorem nmX0 : ∀ a, a < 3 → ∀ b, b < 3 → a ≠ b → (TX0 a).2.1 ≠ (TX0 b).2.1 := by decide +kernel
theorem tyX0_ok : ∀ k, k < 3 → parseFieldDescriptor (TX0 k).2.2.1 = some (tyX0 k) := by decide +kernel
abbrev cX0_init : ByteArray := prog_2_method_1_code
def yX0_init : MethodName := ⟨RX0, "<init>", "()V"⟩
abbrev cX0_forgetAll : ByteArray := prog_2_method_2_code
def yX0_forgetAll : MethodName := ⟨RX0, "forgetAll", "()V"⟩
abbrev cX0_add : ByteArray := prog_2_method_3_code
def yX0_add : MethodName := ⟨RX0, "add", "(LGateChoir$Moment;)V"⟩
abbrev cX0_takeLast : ByteArray := prog_2_method_4_code
def yX0_takeLast : MethodName := ⟨RX0, "takeLast", "(LGateChoir$Moment;)V"⟩
def RX1 : String := "GateChoir$Fen"
def TX1 : u_T := fun k => match k with
  | 0 => ("GateChoir$Fen", "gates", "I", false)
  | 1 => ("GateChoir$Fen", "lanes", "I", false)
  | 2 => ("GateChoir$Fen", "beasts", "I", false)
  | 3 => ("GateChoir$Fen", "verses", "I", false)
  | 4 => ("GateChoir$Fen", "frostAtFirst", "I", false)
  | 5 => ("GateChoir$Fen", "notesAtFirst", "[I", true)
  | 6 => ("GateChoir$Fen", "gateKinds", "[I", true)
  | 7 => ("GateChoir$Fen", "laneGates", "[I", true)
  | 8 => ("GateChoir$Fen", "weights", "[I", true)
  | 9 => ("GateChoir$Fen", "beastKinds", "[I", true)
  | 10 => ("GateChoir$Fen", "verseTones", "[I", true)
  | 11 => ("GateChoir$Fen", "part", "I", false)
  | _ => ("GateChoir$Fen", "partPlace", "I", false)
def tyX1 : Nat → FieldType := fun k => match k with
  | 0 => .int
  | 1 => .int
  | 2 => .int
  | 3 => .int
  | 4 => .int
  | 5 => .array .int
  | 6 => .array .int
  | 7 => .array .int
  | 8 => .array .int
  | 9 => .array .int
  | 10 => .array .int
  | 11 => .int
  | _ => .int
abbrev wsX10 : List Cond := u_ws RX1 TX1 13
theorem nmX1 : ∀ a, a < 13 → ∀ b, b < 13 → a ≠ b → (TX1 a).2.1 ≠ (TX1 b).2.1 := by decide +kernel
theorem tyX1_ok : ∀ k, k < 13 → parseFieldDescriptor (TX1 k).2.2.1 = some (tyX1 k) := by decide +kernel
abbrev cX1_init : ByteArray := prog_3_method_1_code
def yX1_init : MethodName := ⟨RX1, "<init>", "()V"⟩
abbrev cX1_read : ByteArray := prog_3_method_2_code
def yX1_read : MethodName := ⟨RX1, "read", "([II)I"⟩
abbrev cX1_takes : ByteArray := prog_3_method_3_code
def yX1_takes : MethodName := ⟨RX1, "takes", "(II)Z"⟩
abbrev cX1_mayStart : ByteArray := prog_3_method_4_code
def yX1_mayStart : MethodName := ⟨RX1, "mayStart", "(I)Z"⟩
abbrev cX1_goesOn : ByteArray := prog_3_method_5_code
def yX1_goesOn : MethodName := ⟨RX1, "goesOn", "(I)Z"⟩
abbrev cX1_takesGate : ByteArray := prog_3_method_6_code
def yX1_takesGate : MethodName := ⟨RX1, "takesGate", "(I)Z"⟩
abbrev cX1_takesLane : ByteArray := prog_3_method_7_code
def yX1_takesLane : MethodName := ⟨RX1, "takesLane", "(I)Z"⟩
abbrev cX1_takesBeast : ByteArray := prog_3_method_8_code
def yX1_takesBeast : MethodName := ⟨RX1, "takesBeast", "(I)Z"⟩
abbrev cX1_takesVerse : ByteArray := prog_3_method_9_code
def yX1_takesVerse : MethodName := ⟨RX1, "takesVerse", "(I)Z"⟩
abbrev cX1_isNote : ByteArray := prog_3_method_10_code
def yX1_isNote : MethodName := ⟨RX1, "isNote", "(I)Z"⟩
abbrev cX1_isGate : ByteArray := prog_3_method_11_code
def yX1_isGate : MethodName := ⟨RX1, "isGate", "(I)Z"⟩
abbrev cX1_isLane : ByteArray := prog_3_method_12_code
def yX1_isLane : MethodName := ⟨RX1, "isLane", "(I)Z"⟩
abbrev cX1_isBeast : ByteArray := prog_3_method_13_code
def yX1_isBeast : MethodName := ⟨RX1, "isBeast", "(I)Z"⟩
abbrev cX1_isVerse : ByteArray := prog_3_method_14_code
def yX1_isVerse : MethodName := ⟨RX1, "isVerse", "(I)Z"⟩
abbrev cX1_gatesOf : ByteArray := prog_3_method_15_code
def yX1_gatesOf : MethodName := ⟨RX1, "gatesOf", "(I)I"⟩
abbrev cX1_lanesWith : ByteArray := prog_3_method_16_code
def yX1_lanesWith : MethodName := ⟨RX1, "lanesWith", "(I)I"⟩
abbrev cX1_verseBits : ByteArray := prog_3_method_17_code
def yX1_verseBits : MethodName := ⟨RX1, "verseBits", "(I)I"⟩
abbrev cX1_toneBy : ByteArray := prog_3_method_18_code
def yX1_toneBy : MethodName := ⟨RX1, "toneBy", "(LGateChoir$Moment;III)I"⟩
abbrev cX1_sing : ByteArray := prog_3_method_19_code
def yX1_sing : MethodName := ⟨RX1, "sing", "(LGateChoir$Moment;IILGateChoir$Song;)V"⟩
abbrev cX1_canGoHome : ByteArray := prog_3_method_20_code
def yX1_canGoHome : MethodName := ⟨RX1, "canGoHome", "(LGateChoir$Moment;II)Z"⟩
abbrev cX1_sendHome : ByteArray := prog_3_method_21_code
def yX1_sendHome : MethodName := ⟨RX1, "sendHome", "(LGateChoir$Moment;IILGateChoir$Song;)V"⟩
abbrev cX1_fitBehind : ByteArray := prog_3_method_22_code
def yX1_fitBehind : MethodName := ⟨RX1, "fitBehind", "(LGateChoir$Moment;LGateChoir$Song;I)I"⟩
def RX2 : String := "GateChoir$Heard"
def TX2 : u_T := fun k => match k with
  | 0 => ("GateChoir$Heard", "kinds", "[I", true)
  | 1 => ("GateChoir$Heard", "gates", "[I", true)
  | 2 => ("GateChoir$Heard", "tones", "[I", true)
  | _ => ("GateChoir$Heard", "count", "I", false)
def tyX2 : Nat → FieldType := fun k => match k with
  | 0 => .array .int
  | 1 => .array .int
  | 2 => .array .int
  | _ => .int
abbrev wsX20 : List Cond := u_ws RX2 TX2 4
theorem nmX2 : ∀ a, a < 4 → ∀ b, b < 4 → a ≠ b → (TX2 a).2.1 ≠ (TX2 b).2.1 := by decide +kernel
theorem tyX2_ok : ∀ k, k < 4 → parseFieldDescriptor (TX2 k).2.2.1 = some (tyX2 k) := by decide +kernel
abbrev cX2_init : ByteArray := prog_4_method_1_code
def yX2_init : MethodName := ⟨RX2, "<init>", "()V"⟩
abbrev cX2_add : ByteArray := prog_4_method_2_code
def yX2_add : MethodName := ⟨RX2, "add", "(III)V"⟩
abbrev cX2_agrees : ByteArray := prog_4_method_3_code
def yX2_agrees : MethodName := ⟨RX2, "agrees", "(LGateChoir$Fen;LGateChoir$Moment;II)Z"⟩
def RX3 : String := "GateChoir$Herdsmen"
def TX3 : u_T := fun k => match k with
  | 0 => ("GateChoir$Herdsmen", "ones", "[I", true)
  | 1 => ("GateChoir$Herdsmen", "others", "[I", true)
  | 2 => ("GateChoir$Herdsmen", "resting", "I", false)
  | _ => ("GateChoir$Herdsmen", "first", "I", false)
def tyX3 : Nat → FieldType := fun k => match k with
  | 0 => .array .int
  | 1 => .array .int
  | 2 => .int
  | _ => .int
abbrev wsX30 : List Cond := u_ws RX3 TX3 4
theorem nmX3 : ∀ a, a < 4 → ∀ b, b < 4 → a ≠ b → (TX3 a).2.1 ≠ (TX3 b).2.1 := by decide +kernel
theorem tyX3_ok : ∀ k, k < 4 → parseFieldDescriptor (TX3 k).2.2.1 = some (tyX3 k) := by decide +kernel
abbrev cX3_init : ByteArray := prog_5_method_1_code
def yX3_init : MethodName := ⟨RX3, "<init>", "()V"⟩
abbrev cX3_meet : ByteArray := prog_5_method_2_code
def yX3_meet : MethodName := ⟨RX3, "meet", "(ILGateChoir$Song;ILGateChoir$Song;)V"⟩
abbrev cX3_settle : ByteArray := prog_5_method_3_code
def yX3_settle : MethodName := ⟨RX3, "settle", "(I)V"⟩
abbrev cX3_isAtRest : ByteArray := prog_5_method_4_code
def yX3_isAtRest : MethodName := ⟨RX3, "isAtRest", "(III)Z"⟩
abbrev cX3_isUnbroken : ByteArray := prog_5_method_5_code
def yX3_isUnbroken : MethodName := ⟨RX3, "isUnbroken", "(LGateChoir$Song;)Z"⟩
def RX4 : String := "GateChoir$Moment"
def TX4 : u_T := fun k => match k with
  | 0 => ("GateChoir$Moment", "notes", "I", false)
  | 1 => ("GateChoir$Moment", "passed", "I", false)
  | 2 => ("GateChoir$Moment", "open", "I", false)
  | 3 => ("GateChoir$Moment", "oiled", "I", false)
  | 4 => ("GateChoir$Moment", "home", "I", false)
  | 5 => ("GateChoir$Moment", "frost", "I", false)
  | 6 => ("GateChoir$Moment", "sung", "J", false)
  | _ => ("GateChoir$Moment", "sungCount", "I", false)
def tyX4 : Nat → FieldType := fun k => match k with
  | 0 => .int
  | 1 => .int
  | 2 => .int
  | 3 => .int
  | 4 => .int
  | 5 => .int
  | 6 => .long
  | _ => .int
abbrev wsX40 : List Cond := u_ws RX4 TX4 8
theorem nmX4 : ∀ a, a < 8 → ∀ b, b < 8 → a ≠ b → (TX4 a).2.1 ≠ (TX4 b).2.1 := by decide +kernel
theorem tyX4_ok : ∀ k, k < 8 → parseFieldDescriptor (TX4 k).2.2.1 = some (tyX4 k) := by decide +kernel
abbrev cX4_init : ByteArray := prog_6_method_1_code
def yX4_init : MethodName := ⟨RX4, "<init>", "()V"⟩
abbrev cX4_begin : ByteArray := prog_6_method_2_code
def yX4_begin : MethodName := ⟨RX4, "begin", "(LGateChoir$Fen;)V"⟩
abbrev cX4_become : ByteArray := prog_6_method_3_code
def yX4_become : MethodName := ⟨RX4, "become", "(LGateChoir$Moment;)V"⟩
abbrev cX4_noteOf : ByteArray := prog_6_method_4_code
def yX4_noteOf : MethodName := ⟨RX4, "noteOf", "(I)I"⟩
abbrev cX4_setNote : ByteArray := prog_6_method_5_code
def yX4_setNote : MethodName := ⟨RX4, "setNote", "(II)V"⟩
abbrev cX4_passedOf : ByteArray := prog_6_method_6_code
def yX4_passedOf : MethodName := ⟨RX4, "passedOf", "(I)I"⟩
abbrev cX4_pass : ByteArray := prog_6_method_7_code
def yX4_pass : MethodName := ⟨RX4, "pass", "(I)V"⟩
abbrev cX4_isHome : ByteArray := prog_6_method_8_code
def yX4_isHome : MethodName := ⟨RX4, "isHome", "(I)Z"⟩
abbrev cX4_homeCount : ByteArray := prog_6_method_9_code
def yX4_homeCount : MethodName := ⟨RX4, "homeCount", "()I"⟩
abbrev cX4_addSung : ByteArray := prog_6_method_10_code
def yX4_addSung : MethodName := ⟨RX4, "addSung", "(I)V"⟩
abbrev cX4_fromLast : ByteArray := prog_6_method_11_code
def yX4_fromLast : MethodName := ⟨RX4, "fromLast", "(I)I"⟩
def RX5 : String := "GateChoir$Search"
def TX5 : u_T := fun k => match k with
  | 0 => ("GateChoir$Search", "tried", "[LGateChoir$Moment;", true)
  | 1 => ("GateChoir$Search", "song", "LGateChoir$Song;", true)
  | 2 => ("GateChoir$Search", "most", "I", false)
  | _ => ("GateChoir$Search", "row", "I", false)
def tyX5 : Nat → FieldType := fun k => match k with
  | 0 => .array (.object "GateChoir$Moment")
  | 1 => .object "GateChoir$Song"
  | 2 => .int
  | _ => .int
abbrev wsX50 : List Cond := u_ws RX5 TX5 4
theorem nmX5 : ∀ a, a < 4 → ∀ b, b < 4 → a ≠ b → (TX5 a).2.1 ≠ (TX5 b).2.1 := by decide +kernel
theorem tyX5_ok : ∀ k, k < 4 → parseFieldDescriptor (TX5 k).2.2.1 = some (tyX5 k) := by decide +kernel
abbrev cX5_init : ByteArray := prog_7_method_1_code
def yX5_init : MethodName := ⟨RX5, "<init>", "()V"⟩
abbrev cX5_look : ByteArray := prog_7_method_2_code
def yX5_look : MethodName := ⟨RX5, "look", "(LGateChoir$Fen;LGateChoir$Moment;II)V"⟩
abbrev cX5_tryRows : ByteArray := prog_7_method_3_code
def yX5_tryRows : MethodName := ⟨RX5, "tryRows", "(LGateChoir$Search;LGateChoir$Fen;LGateChoir$Moment;III)V"⟩
abbrev cX5_take : ByteArray := prog_7_method_4_code
def yX5_take : MethodName := ⟨RX5, "take", "(II)V"⟩
def RX6 : String := "GateChoir$Song"
def TX6 : u_T := fun k => match k with
  | 0 => ("GateChoir$Song", "tones", "[I", true)
  | _ => ("GateChoir$Song", "length", "I", false)
def tyX6 : Nat → FieldType := fun k => match k with
  | 0 => .array .int
  | _ => .int
abbrev wsX60 : List Cond := u_ws RX6 TX6 2
theorem nmX6 : ∀ a, a < 2 → ∀ b, b < 2 → a ≠ b → (TX6 a).2.1 ≠ (TX6 b).2.1 := by decide +kernel
theorem tyX6_ok : ∀ k, k < 2 → parseFieldDescriptor (TX6 k).2.2.1 = some (tyX6 k) := by decide +kernel
abbrev cX6_init : ByteArray := prog_8_method_1_code
def yX6_init : MethodName := ⟨RX6, "<init>", "()V"⟩
abbrev cX6_add : ByteArray := prog_8_method_2_code
def yX6_add : MethodName := ⟨RX6, "add", "(I)V"⟩
abbrev cX6_toneCount : ByteArray := prog_8_method_3_code
def yX6_toneCount : MethodName := ⟨RX6, "toneCount", "()I"⟩
abbrev cX6_toneBits : ByteArray := prog_8_method_4_code
def yX6_toneBits : MethodName := ⟨RX6, "toneBits", "()I"⟩
abbrev cX6_harmonyWith : ByteArray := prog_8_method_5_code
def yX6_harmonyWith : MethodName := ⟨RX6, "harmonyWith", "(LGateChoir$Song;)I"⟩
def RX7 : String := "GateChoir"
def TX7 : u_T := fun k => match k with
  | 0 => ("GateChoir", "letters", "[I", true)
  | 1 => ("GateChoir", "length", "I", false)
  | 2 => ("GateChoir", "fen", "LGateChoir$Fen;", false)
  | 3 => ("GateChoir", "draft", "LGateChoir$Fen;", false)
  | 4 => ("GateChoir", "now", "LGateChoir$Moment;", true)
  | 5 => ("GateChoir", "trial", "LGateChoir$Moment;", true)
  | 6 => ("GateChoir", "acts", "LGateChoir$Acts;", true)
  | 7 => ("GateChoir", "kept", "[LGateChoir$Moment;", true)
  | 8 => ("GateChoir", "isKept", "[Z", true)
  | 9 => ("GateChoir", "heard", "LGateChoir$Heard;", true)
  | 10 => ("GateChoir", "search", "LGateChoir$Search;", true)
  | 11 => ("GateChoir", "herdsmen", "LGateChoir$Herdsmen;", true)
  | 12 => ("GateChoir", "song", "LGateChoir$Song;", true)
  | 13 => ("GateChoir", "otherSong", "LGateChoir$Song;", true)
  | _ => ("GateChoir", "seed", "J", false)
def tyX7 : Nat → FieldType := fun k => match k with
  | 0 => .array .int
  | 1 => .int
  | 2 => .object "GateChoir$Fen"
  | 3 => .object "GateChoir$Fen"
  | 4 => .object "GateChoir$Moment"
  | 5 => .object "GateChoir$Moment"
  | 6 => .object "GateChoir$Acts"
  | 7 => .array (.object "GateChoir$Moment")
  | 8 => .array .boolean
  | 9 => .object "GateChoir$Heard"
  | 10 => .object "GateChoir$Search"
  | 11 => .object "GateChoir$Herdsmen"
  | 12 => .object "GateChoir$Song"
  | 13 => .object "GateChoir$Song"
  | _ => .long
abbrev wsX70 : List Cond := u_ws RX7 TX7 15
theorem nmX7 : ∀ a, a < 15 → ∀ b, b < 15 → a ≠ b → (TX7 a).2.1 ≠ (TX7 b).2.1 := by decide +kernel
theorem tyX7_ok : ∀ k, k < 15 → parseFieldDescriptor (TX7 k).2.2.1 = some (tyX7 k) := by decide +kernel
abbrev cX7_init : ByteArray := prog_1_method_1_code
def yX7_init : MethodName := ⟨RX7, "<init>", "()V"⟩
abbrev cX7_write : ByteArray := prog_1_method_2_code
def yX7_write : MethodName := ⟨RX7, "write", "(I)I"⟩
abbrev cX7_wipe : ByteArray := prog_1_method_3_code
def yX7_wipe : MethodName := ⟨RX7, "wipe", "()I"⟩
abbrev cX7_fault : ByteArray := prog_1_method_4_code
def yX7_fault : MethodName := ⟨RX7, "fault", "()I"⟩
abbrev cX7_fen : ByteArray := prog_1_method_5_code
def yX7_fen : MethodName := ⟨RX7, "fen", "()I"⟩
abbrev cX7_gate : ByteArray := prog_1_method_6_code
def yX7_gate : MethodName := ⟨RX7, "gate", "(II)I"⟩
abbrev cX7_beast : ByteArray := prog_1_method_7_code
def yX7_beast : MethodName := ⟨RX7, "beast", "(II)I"⟩
abbrev cX7_tone : ByteArray := prog_1_method_8_code
def yX7_tone : MethodName := ⟨RX7, "tone", "(II)I"⟩
abbrev cX7_song : ByteArray := prog_1_method_9_code
def yX7_song : MethodName := ⟨RX7, "song", "(III)I"⟩
abbrev cX7_sung : ByteArray := prog_1_method_10_code
def yX7_sung : MethodName := ⟨RX7, "sung", "(I)I"⟩
abbrev cX7_drive : ByteArray := prog_1_method_11_code
def yX7_drive : MethodName := ⟨RX7, "drive", "(II)I"⟩
abbrev cX7_open : ByteArray := prog_1_method_12_code
def yX7_open : MethodName := ⟨RX7, "open", "(I)I"⟩
abbrev cX7_oil : ByteArray := prog_1_method_13_code
def yX7_oil : MethodName := ⟨RX7, "oil", "(I)I"⟩
abbrev cX7_hang : ByteArray := prog_1_method_14_code
def yX7_hang : MethodName := ⟨RX7, "hang", "(IZ)I"⟩
abbrev cX7_turnOut : ByteArray := prog_1_method_15_code
def yX7_turnOut : MethodName := ⟨RX7, "turnOut", "(I)I"⟩
abbrev cX7_frost : ByteArray := prog_1_method_16_code
def yX7_frost : MethodName := ⟨RX7, "frost", "()I"⟩
abbrev cX7_undo : ByteArray := prog_1_method_17_code
def yX7_undo : MethodName := ⟨RX7, "undo", "()I"⟩
abbrev cX7_fit : ByteArray := prog_1_method_18_code
def yX7_fit : MethodName := ⟨RX7, "fit", "(I)I"⟩
abbrev cX7_harmony : ByteArray := prog_1_method_19_code
def yX7_harmony : MethodName := ⟨RX7, "harmony", "(IIII)I"⟩
abbrev cX7_best : ByteArray := prog_1_method_20_code
def yX7_best : MethodName := ⟨RX7, "best", "(IIZ)I"⟩
abbrev cX7_fewest : ByteArray := prog_1_method_21_code
def yX7_fewest : MethodName := ⟨RX7, "fewest", "(I)I"⟩
abbrev cX7_has : ByteArray := prog_1_method_22_code
def yX7_has : MethodName := ⟨RX7, "has", "(II)I"⟩
abbrev cX7_silence : ByteArray := prog_1_method_23_code
def yX7_silence : MethodName := ⟨RX7, "silence", "(I)I"⟩
abbrev cX7_judge : ByteArray := prog_1_method_24_code
def yX7_judge : MethodName := ⟨RX7, "judge", "(II)I"⟩
abbrev cX7_hear : ByteArray := prog_1_method_25_code
def yX7_hear : MethodName := ⟨RX7, "hear", "(III)I"⟩
abbrev cX7_unhear : ByteArray := prog_1_method_26_code
def yX7_unhear : MethodName := ⟨RX7, "unhear", "()I"⟩
abbrev cX7_weights : ByteArray := prog_1_method_27_code
def yX7_weights : MethodName := ⟨RX7, "weights", "(I)I"⟩
abbrev cX7_share : ByteArray := prog_1_method_28_code
def yX7_share : MethodName := ⟨RX7, "share", "(IIZ)I"⟩
abbrev cX7_rests : ByteArray := prog_1_method_29_code
def yX7_rests : MethodName := ⟨RX7, "rests", "(III)I"⟩
abbrev cX7_drips : ByteArray := prog_1_method_30_code
def yX7_drips : MethodName := ⟨RX7, "drips", "(IIIIZ)I"⟩
abbrev cX7_seed : ByteArray := prog_1_method_31_code
def yX7_seed : MethodName := ⟨RX7, "seed", "(J)J"⟩
abbrev cX7_winters : ByteArray := prog_1_method_32_code
def yX7_winters : MethodName := ⟨RX7, "winters", "(I)I"⟩
abbrev cX7_keep : ByteArray := prog_1_method_33_code
def yX7_keep : MethodName := ⟨RX7, "keep", "(I)I"⟩
abbrev cX7_again : ByteArray := prog_1_method_34_code
def yX7_again : MethodName := ⟨RX7, "again", "(I)I"⟩
abbrev cX7_count : ByteArray := prog_1_method_35_code
def yX7_count : MethodName := ⟨RX7, "count", "(I)I"⟩
abbrev cX7_isSlot : ByteArray := prog_1_method_36_code
def yX7_isSlot : MethodName := ⟨RX7, "isSlot", "(I)Z"⟩
abbrev cX7_isKind : ByteArray := prog_1_method_37_code
def yX7_isKind : MethodName := ⟨RX7, "isKind", "(I)Z"⟩
abbrev cX7_fitIn : ByteArray := prog_1_method_38_code
def yX7_fitIn : MethodName := ⟨RX7, "fitIn", "(LGateChoir$Moment;I)I"⟩
abbrev cX7_sounds : ByteArray := prog_1_method_39_code
def yX7_sounds : MethodName := ⟨RX7, "sounds", "(I)Z"⟩
abbrev cX7_doesDoing : ByteArray := prog_1_method_40_code
def yX7_doesDoing : MethodName := ⟨RX7, "doesDoing", "(LGateChoir$Moment;II)Z"⟩
abbrev cX7_togglesOpen : ByteArray := prog_1_method_41_code
def yX7_togglesOpen : MethodName := ⟨RX7, "togglesOpen", "(LGateChoir$Moment;I)Z"⟩
abbrev cX7_togglesOil : ByteArray := prog_1_method_42_code
def yX7_togglesOil : MethodName := ⟨RX7, "togglesOil", "(LGateChoir$Moment;I)Z"⟩
abbrev cX7_turnsOut : ByteArray := prog_1_method_43_code
def yX7_turnsOut : MethodName := ⟨RX7, "turnsOut", "(LGateChoir$Moment;I)Z"⟩
abbrev cX7_goesHome : ByteArray := prog_1_method_44_code
def yX7_goesHome : MethodName := ⟨RX7, "goesHome", "(LGateChoir$Moment;II)Z"⟩
abbrev cX7_singersOf : ByteArray := prog_1_method_45_code
def yX7_singersOf : MethodName := ⟨RX7, "singersOf", "(II)I"⟩
abbrev cX7_chanceOf : ByteArray := prog_1_method_46_code
def yX7_chanceOf : MethodName := ⟨RX7, "chanceOf", "(III)I"⟩
abbrev cX7_tonesWhenOiled : ByteArray := prog_1_method_47_code
def yX7_tonesWhenOiled : MethodName := ⟨RX7, "tonesWhenOiled", "(III)I"⟩
abbrev cX7_doChance : ByteArray := prog_1_method_48_code
def yX7_doChance : MethodName := ⟨RX7, "doChance", "(LGateChoir$Moment;I)I"⟩
abbrev cX7_fraction : ByteArray := prog_1_method_49_code
def yX7_fraction : MethodName := ⟨RX7, "fraction", "(IIZ)I"⟩
abbrev cX7_greatestCommon : ByteArray := prog_1_method_50_code
def yX7_greatestCommon : MethodName := ⟨RX7, "greatestCommon", "(II)I"⟩
def RX8 : String := "GateChoirModel"
def TX8 : u_T := fun k => match k with
  | 0 => ("GateChoirModel", "gates", "I", false)
  | 1 => ("GateChoirModel", "lanes", "I", false)
  | 2 => ("GateChoirModel", "beasts", "I", false)
  | 3 => ("GateChoirModel", "verses", "I", false)
  | 4 => ("GateChoirModel", "gateKind", "[I", true)
  | 5 => ("GateChoirModel", "laneGate", "[I", true)
  | 6 => ("GateChoirModel", "weight", "[I", true)
  | 7 => ("GateChoirModel", "beastKind", "[I", true)
  | 8 => ("GateChoirModel", "verseTone", "[I", true)
  | 9 => ("GateChoirModel", "now", "[I", true)
  | 10 => ("GateChoirModel", "readGate", "[I", true)
  | 11 => ("GateChoirModel", "readLane", "[I", true)
  | 12 => ("GateChoirModel", "readBeast", "[I", true)
  | 13 => ("GateChoirModel", "readVerse", "[I", true)
  | 14 => ("GateChoirModel", "readGates", "I", false)
  | 15 => ("GateChoirModel", "readLanes", "I", false)
  | 16 => ("GateChoirModel", "readBeasts", "I", false)
  | 17 => ("GateChoirModel", "readVerses", "I", false)
  | 18 => ("GateChoirModel", "readFrost", "I", false)
  | 19 => ("GateChoirModel", "text", "[I", true)
  | 20 => ("GateChoirModel", "length", "I", false)
  | 21 => ("GateChoirModel", "at", "I", false)
  | 22 => ("GateChoirModel", "faultAt", "I", false)
  | 23 => ("GateChoirModel", "songs", "[I", true)
  | 24 => ("GateChoirModel", "songSize", "I", false)
  | 25 => ("GateChoirModel", "acts", "I", false)
  | 26 => ("GateChoirModel", "next", "I", false)
  | 27 => ("GateChoirModel", "row", "[I", true)
  | 28 => ("GateChoirModel", "bestCode", "I", false)
  | 29 => ("GateChoirModel", "heard", "I", false)
  | 30 => ("GateChoirModel", "heardKind", "[I", true)
  | 31 => ("GateChoirModel", "heardGate", "[I", true)
  | 32 => ("GateChoirModel", "heardTone", "[I", true)
  | 33 => ("GateChoirModel", "seed", "J", false)
  | 34 => ("GateChoirModel", "isKept", "[Z", true)
  | _ => ("GateChoirModel", "kept", "[I", true)
def tyX8 : Nat → FieldType := fun k => match k with
  | 0 => .int
  | 1 => .int
  | 2 => .int
  | 3 => .int
  | 4 => .array .int
  | 5 => .array .int
  | 6 => .array .int
  | 7 => .array .int
  | 8 => .array .int
  | 9 => .array .int
  | 10 => .array .int
  | 11 => .array .int
  | 12 => .array .int
  | 13 => .array .int
  | 14 => .int
  | 15 => .int
  | 16 => .int
  | 17 => .int
  | 18 => .int
  | 19 => .array .int
  | 20 => .int
  | 21 => .int
  | 22 => .int
  | 23 => .array .int
  | 24 => .int
  | 25 => .int
  | 26 => .int
  | 27 => .array .int
  | 28 => .int
  | 29 => .int
  | 30 => .array .int
  | 31 => .array .int
  | 32 => .array .int
  | 33 => .long
  | 34 => .array .boolean
  | _ => .array .int
abbrev wsX80 : List Cond := u_ws RX8 TX8 36
theorem nmX8 : ∀ a, a < 36 → ∀ b, b < 36 → a ≠ b → (TX8 a).2.1 ≠ (TX8 b).2.1 := by decide +kernel
theorem tyX8_ok : ∀ k, k < 36 → parseFieldDescriptor (TX8 k).2.2.1 = some (tyX8 k) := by decide +kernel
abbrev cX8_init : ByteArray := prog_10_method_1_code
def yX8_init : MethodName := ⟨RX8, "<init>", "()V"⟩
abbrev cX8_in : ByteArray := prog_10_method_3_code
def yX8_in : MethodName := ⟨RX8, "in", "(JJJ)Z"⟩
abbrev cX8_bit : ByteArray := prog_10_method_4_code
def yX8_bit : MethodName := ⟨RX8, "bit", "(II)Z"⟩
abbrev cX8_ones : ByteArray := prog_10_method_5_code
def yX8_ones : MethodName := ⟨RX8, "ones", "(I)I"⟩
abbrev cX8_write : ByteArray := prog_10_method_6_code
def yX8_write : MethodName := ⟨RX8, "write", "(I)I"⟩
abbrev cX8_wipe : ByteArray := prog_10_method_7_code
def yX8_wipe : MethodName := ⟨RX8, "wipe", "()I"⟩
abbrev cX8_figure : ByteArray := prog_10_method_8_code
def yX8_figure : MethodName := ⟨RX8, "figure", "(II)I"⟩
abbrev cX8_letterTone : ByteArray := prog_10_method_9_code
def yX8_letterTone : MethodName := ⟨RX8, "letterTone", "(Z)I"⟩
abbrev cX8_readText : ByteArray := prog_10_method_10_code
def yX8_readText : MethodName := ⟨RX8, "readText", "()I"⟩
abbrev cX8_readPart : ByteArray := prog_10_method_11_code
def yX8_readPart : MethodName := ⟨RX8, "readPart", "(I)V"⟩
abbrev cX8_fault : ByteArray := prog_10_method_12_code
def yX8_fault : MethodName := ⟨RX8, "fault", "()I"⟩
abbrev cX8_fen : ByteArray := prog_10_method_13_code
def yX8_fen : MethodName := ⟨RX8, "fen", "()I"⟩
abbrev cX8_isGate : ByteArray := prog_10_method_14_code
def yX8_isGate : MethodName := ⟨RX8, "isGate", "(I)Z"⟩
abbrev cX8_isLane : ByteArray := prog_10_method_15_code
def yX8_isLane : MethodName := ⟨RX8, "isLane", "(I)Z"⟩
abbrev cX8_isBeast : ByteArray := prog_10_method_16_code
def yX8_isBeast : MethodName := ⟨RX8, "isBeast", "(I)Z"⟩
abbrev cX8_isVerse : ByteArray := prog_10_method_17_code
def yX8_isVerse : MethodName := ⟨RX8, "isVerse", "(I)Z"⟩
abbrev cX8_toneOf : ByteArray := prog_10_method_18_code
def yX8_toneOf : MethodName := ⟨RX8, "toneOf", "(IIII)I"⟩
abbrev cX8_sing : ByteArray := prog_10_method_19_code
def yX8_sing : MethodName := ⟨RX8, "sing", "(IIZ)V"⟩
abbrev cX8_laySong : ByteArray := prog_10_method_20_code
def yX8_laySong : MethodName := ⟨RX8, "laySong", "(IIII)I"⟩
abbrev cX8_loud : ByteArray := prog_10_method_21_code
def yX8_loud : MethodName := ⟨RX8, "loud", "(II)I"⟩
abbrev cX8_addSung : ByteArray := prog_10_method_22_code
def yX8_addSung : MethodName := ⟨RX8, "addSung", "(II)V"⟩
abbrev cX8_driveOn : ByteArray := prog_10_method_23_code
def yX8_driveOn : MethodName := ⟨RX8, "driveOn", "(III)I"⟩
abbrev cX8_lanesOf : ByteArray := prog_10_method_24_code
def yX8_lanesOf : MethodName := ⟨RX8, "lanesOf", "(I)I"⟩
abbrev cX8_gate : ByteArray := prog_10_method_25_code
def yX8_gate : MethodName := ⟨RX8, "gate", "(II)I"⟩
abbrev cX8_beast : ByteArray := prog_10_method_26_code
def yX8_beast : MethodName := ⟨RX8, "beast", "(II)I"⟩
abbrev cX8_tone : ByteArray := prog_10_method_27_code
def yX8_tone : MethodName := ⟨RX8, "tone", "(II)I"⟩
abbrev cX8_song : ByteArray := prog_10_method_28_code
def yX8_song : MethodName := ⟨RX8, "song", "(III)I"⟩
abbrev cX8_sungOn : ByteArray := prog_10_method_29_code
def yX8_sungOn : MethodName := ⟨RX8, "sungOn", "(II)I"⟩
abbrev cX8_sung : ByteArray := prog_10_method_30_code
def yX8_sung : MethodName := ⟨RX8, "sung", "(I)I"⟩
abbrev cX8_keepAct : ByteArray := prog_10_method_31_code
def yX8_keepAct : MethodName := ⟨RX8, "keepAct", "()V"⟩
abbrev cX8_canDrive : ByteArray := prog_10_method_32_code
def yX8_canDrive : MethodName := ⟨RX8, "canDrive", "(III)Z"⟩
abbrev cX8_drive : ByteArray := prog_10_method_33_code
def yX8_drive : MethodName := ⟨RX8, "drive", "(II)I"⟩
abbrev cX8_open : ByteArray := prog_10_method_34_code
def yX8_open : MethodName := ⟨RX8, "open", "(I)I"⟩
abbrev cX8_oil : ByteArray := prog_10_method_35_code
def yX8_oil : MethodName := ⟨RX8, "oil", "(I)I"⟩
abbrev cX8_hang : ByteArray := prog_10_method_36_code
def yX8_hang : MethodName := ⟨RX8, "hang", "(IZ)I"⟩
abbrev cX8_turnOut : ByteArray := prog_10_method_37_code
def yX8_turnOut : MethodName := ⟨RX8, "turnOut", "(I)I"⟩
abbrev cX8_frost : ByteArray := prog_10_method_38_code
def yX8_frost : MethodName := ⟨RX8, "frost", "()I"⟩
abbrev cX8_undo : ByteArray := prog_10_method_39_code
def yX8_undo : MethodName := ⟨RX8, "undo", "()I"⟩
abbrev cX8_fitOn : ByteArray := prog_10_method_40_code
def yX8_fitOn : MethodName := ⟨RX8, "fitOn", "(II)I"⟩
abbrev cX8_fit : ByteArray := prog_10_method_41_code
def yX8_fit : MethodName := ⟨RX8, "fit", "(I)I"⟩
abbrev cX8_isSweet : ByteArray := prog_10_method_42_code
def yX8_isSweet : MethodName := ⟨RX8, "isSweet", "(I)Z"⟩
abbrev cX8_harmonyOf : ByteArray := prog_10_method_43_code
def yX8_harmonyOf : MethodName := ⟨RX8, "harmonyOf", "(II)I"⟩
abbrev cX8_harmony : ByteArray := prog_10_method_44_code
def yX8_harmony : MethodName := ⟨RX8, "harmony", "(IIII)I"⟩
abbrev cX8_layTrial : ByteArray := prog_10_method_45_code
def yX8_layTrial : MethodName := ⟨RX8, "layTrial", "()V"⟩
abbrev cX8_power : ByteArray := prog_10_method_46_code
def yX8_power : MethodName := ⟨RX8, "power", "(II)I"⟩
abbrev cX8_driveRow : ByteArray := prog_10_method_47_code
def yX8_driveRow : MethodName := ⟨RX8, "driveRow", "(II)Z"⟩
abbrev cX8_told : ByteArray := prog_10_method_48_code
def yX8_told : MethodName := ⟨RX8, "told", "(II)I"⟩
abbrev cX8_bestFit : ByteArray := prog_10_method_49_code
def yX8_bestFit : MethodName := ⟨RX8, "bestFit", "(II)I"⟩
abbrev cX8_best : ByteArray := prog_10_method_50_code
def yX8_best : MethodName := ⟨RX8, "best", "(IIZ)I"⟩
abbrev cX8_fewest : ByteArray := prog_10_method_51_code
def yX8_fewest : MethodName := ⟨RX8, "fewest", "(I)I"⟩
abbrev cX8_tonesIn : ByteArray := prog_10_method_52_code
def yX8_tonesIn : MethodName := ⟨RX8, "tonesIn", "(II)I"⟩
abbrev cX8_has : ByteArray := prog_10_method_53_code
def yX8_has : MethodName := ⟨RX8, "has", "(II)I"⟩
abbrev cX8_isSilent : ByteArray := prog_10_method_54_code
def yX8_isSilent : MethodName := ⟨RX8, "isSilent", "(II)Z"⟩
abbrev cX8_silence : ByteArray := prog_10_method_55_code
def yX8_silence : MethodName := ⟨RX8, "silence", "(I)I"⟩
abbrev cX8_tryThing : ByteArray := prog_10_method_56_code
def yX8_tryThing : MethodName := ⟨RX8, "tryThing", "(II)Z"⟩
abbrev cX8_judge : ByteArray := prog_10_method_57_code
def yX8_judge : MethodName := ⟨RX8, "judge", "(II)I"⟩
abbrev cX8_hear : ByteArray := prog_10_method_58_code
def yX8_hear : MethodName := ⟨RX8, "hear", "(III)I"⟩
abbrev cX8_unhear : ByteArray := prog_10_method_59_code
def yX8_unhear : MethodName := ⟨RX8, "unhear", "()I"⟩
abbrev cX8_weights : ByteArray := prog_10_method_60_code
def yX8_weights : MethodName := ⟨RX8, "weights", "(I)I"⟩
abbrev cX8_factorial : ByteArray := prog_10_method_61_code
def yX8_factorial : MethodName := ⟨RX8, "factorial", "(I)I"⟩
abbrev cX8_common : ByteArray := prog_10_method_62_code
def yX8_common : MethodName := ⟨RX8, "common", "(II)I"⟩
abbrev cX8_tonesBy : ByteArray := prog_10_method_63_code
def yX8_tonesBy : MethodName := ⟨RX8, "tonesBy", "(II)I"⟩
abbrev cX8_share : ByteArray := prog_10_method_64_code
def yX8_share : MethodName := ⟨RX8, "share", "(IIZ)I"⟩
abbrev cX8_gain : ByteArray := prog_10_method_65_code
def yX8_gain : MethodName := ⟨RX8, "gain", "(IIII)I"⟩
abbrev cX8_isRest : ByteArray := prog_10_method_66_code
def yX8_isRest : MethodName := ⟨RX8, "isRest", "(IIII)Z"⟩
abbrev cX8_rests : ByteArray := prog_10_method_67_code
def yX8_rests : MethodName := ⟨RX8, "rests", "(III)I"⟩
abbrev cX8_drips : ByteArray := prog_10_method_68_code
def yX8_drips : MethodName := ⟨RX8, "drips", "(IIIIZ)I"⟩
abbrev cX8_seed : ByteArray := prog_10_method_69_code
def yX8_seed : MethodName := ⟨RX8, "seed", "(J)J"⟩
abbrev cX8_winters : ByteArray := prog_10_method_70_code
def yX8_winters : MethodName := ⟨RX8, "winters", "(I)I"⟩
abbrev cX8_keep : ByteArray := prog_10_method_71_code
def yX8_keep : MethodName := ⟨RX8, "keep", "(I)I"⟩
abbrev cX8_again : ByteArray := prog_10_method_72_code
def yX8_again : MethodName := ⟨RX8, "again", "(I)I"⟩
abbrev cX8_count : ByteArray := prog_10_method_73_code
def yX8_count : MethodName := ⟨RX8, "count", "(I)I"⟩
def RJ6 : String := "java/lang/Integer"
def TJ6 : u_T := fun k => match k with
  | _ => ("", "", "", false)
def tyJ6 : Nat → FieldType := fun k => match k with
  | _ => .int
abbrev wsJ60 : List Cond := u_ws RJ6 TJ6 0
theorem nmJ6 : ∀ a, a < 0 → ∀ b, b < 0 → a ≠ b → (TJ6 a).2.1 ≠ (TJ6 b).2.1 := by decide +kernel
theorem tyJ6_ok : ∀ k, k < 0 → parseFieldDescriptor (TJ6 k).2.2.1 = some (tyJ6 k) := by decide +kernel
abbrev cJ6_bitCount_0f7a4 : ByteArray := prog_11_method_49_code
def yJ6_bitCount_0f7a4 : MethodName := ⟨RJ6, "bitCount", "(I)I"⟩
def RJ9 : String := "java/lang/Math"
def TJ9 : u_T := fun k => match k with
  | _ => ("", "", "", false)
def tyJ9 : Nat → FieldType := fun k => match k with
  | _ => .int
abbrev wsJ90 : List Cond := u_ws RJ9 TJ9 0
theorem nmJ9 : ∀ a, a < 0 → ∀ b, b < 0 → a ≠ b → (TJ9 a).2.1 ≠ (TJ9 b).2.1 := by decide +kernel
theorem tyJ9_ok : ∀ k, k < 0 → parseFieldDescriptor (TJ9 k).2.2.1 = some (tyJ9 k) := by decide +kernel
abbrev cJ9_floorMod_7cf53 : ByteArray := prog_12_method_50_code
def yJ9_floorMod_7cf53 : MethodName := ⟨RJ9, "floorMod", "(II)I"⟩
abbrev cJ9_abs_0f7a4 : ByteArray := prog_12_method_59_code
def yJ9_abs_0f7a4 : MethodName := ⟨RJ9, "abs", "(I)I"⟩
abbrev cJ9_min_7cf53 : ByteArray := prog_12_method_69_code
def yJ9_min_7cf53 : MethodName := ⟨RJ9, "min", "(II)I"⟩
def RL : String := "GateChoirLaw"
abbrev cL_law : ByteArray := code
def yL_law : MethodName := ⟨RL, "law", "([I)Z"⟩
abbrev vwCl : List vw_C := [(RX0, TX0, 3), (RX1, TX1, 13), (RX2, TX2, 4), (RX3, TX3, 4), (RX4, TX4, 8), (RX5, TX5, 4), (RX6, TX6, 2), (RX7, TX7, 15), (RX8, TX8, 36)]
end
section
/-! AN ABSTRACT MACHINE: cells by number (0: null, 1: the script, 2 and on: what was made), a shape each, and three maps of what they hold. 'gW' is the least predicate that is closed under its steps; part 05 shows that it is sound for the machine itself. -/
abbrev gS : Type := (Nat × (Nat → Nat)) × (Nat → Nat → Nat) × (Nat → Nat → Int32) × (Nat → Nat → Int64)
def gsz (σ : gS) : Nat := σ.1.1
def gsh (σ : gS) : Nat → Nat := σ.1.2
def grf (σ : gS) : Nat → Nat → Nat := σ.2.1
def git (σ : gS) : Nat → Nat → Int32 := σ.2.2.1
def glg (σ : gS) : Nat → Nat → Int64 := σ.2.2.2
def gu2 {α : Type} (f : Nat → Nat → α) (a j : Nat) (v : α) : Nat → Nat → α := fun a' j' => if a' = a ∧ j' = j then v else f a' j'
def gsI (σ : gS) (a j : Nat) (v : Int32) : gS := (σ.1, σ.2.1, gu2 σ.2.2.1 a j v, σ.2.2.2)
def gsL (σ : gS) (a j : Nat) (v : Int64) : gS := (σ.1, σ.2.1, σ.2.2.1, gu2 σ.2.2.2 a j v)
def gsR (σ : gS) (a j : Nat) (v : Nat) : gS := (σ.1, gu2 σ.2.1 a j v, σ.2.2.1, σ.2.2.2)
def gz1 {α : Type} (f : Nat → Nat → α) (a : Nat) (z : α) : Nat → Nat → α := fun a' j' => if a' = a then z else f a' j'
/-- a new cell of shape x: its number is gsz σ + 2, all that it holds is 0 -/
def gnw (σ : gS) (x : Nat) : gS := ((σ.1.1 + 1, fun a => if a = σ.1.1 + 2 then x else σ.1.2 a), gz1 σ.2.1 (σ.1.1 + 2) 0, gz1 σ.2.2.1 (σ.1.1 + 2) 0, gz1 σ.2.2.2 (σ.1.1 + 2) 0)
abbrev gP : Type := Option Value → gS → Prop
/-- a method: code, locals, arguments, class of its receiver, cells and slots that it makes at most -/
abbrev gI : Type := List Instr × Nat × Nat × Nat × Nat × Nat
abbrev gT : Type := Nat → gI
abbrev gK : Type := Nat → Nat → Nat → List Instr → Nat → List Value → List Value → gS → gP → Prop
def glay : List Value → List Value
  | [] => []
  | .long x :: r => .long x :: .null :: glay r
  | v :: r => v :: glay r
def gent (n : Nat) (as : List Value) : List Value := glay as ++ List.replicate (n - (glay as).length) .null
def gok (ls : List Value) (k : Nat) : Bool := match k with
  | 0 => true
  | k + 1 => match ls[k]? with
    | some (.long _) => false
    | some (.double _) => false
    | _ => true
def gcn (c : ClassFile.Cond) (x y : Int32) : Prop := match c with
  | .eq => x = y
  | .ne => ¬ x = y
  | .lt => x < y
  | .ge => y ≤ x
  | .gt => y < x
  | .le => x ≤ y
def gcat (r : List Value) : Nat := (r.map fun v => v.category).sum
def gtab (df lo hi : Int) (os : Array Int) (x : Int32) : Nat := if x.toInt < lo ∨ hi < x.toInt then df.toNat else (os.getD (x.toInt - lo).toNat df).toNat
def glook (df : Int) (ps : Array (Int × Int)) (x : Int32) : Nat := (Op.lookupswitch.offset ps.toList df x.toInt).toNat
def gkd (t : ArrayType) : Nat := match t with
  | .int => 0
  | .boolean => 1
  | _ => 3
def gi2 (K : gK) (f : Int32 → Int32 → Int32) (d mc ms : Nat) (C : List Instr) (i : Nat) (ls st : List Value) (σ : gS) (Q : gP) : Prop :=
  ∃ x y r, st = .int y :: .int x :: r ∧ K d mc ms C (i + 1) ls (.int (f x y) :: r) σ Q
def gl2 (K : gK) (f : Int64 → Int64 → Int64) (d mc ms : Nat) (C : List Instr) (i : Nat) (ls st : List Value) (σ : gS) (Q : gP) : Prop :=
  ∃ x y r, st = .long y :: .long x :: r ∧ K d mc ms C (i + 1) ls (.long (f x y) :: r) σ Q
def glaz (n : Nat) (as : List Value) : Bool := decide ((glay as).length ≤ n) && as.all (fun v => match v with
  | .double _ => false
  | _ => true)
/-- a call of method y with the arguments as, r below them -/
def gcal (M : gT) (K : gK) (y : Nat) (as r : List Value) (d mc ms : Nat) (C : List Instr) (i : Nat) (ls : List Value) (σ : gS) (Q : gP) : Prop :=
  (as.length = (M y).2.2.1 ∧ glaz (M y).2.1 as = true) ∧ gcat r ≤ 8 ∧ (M y).2.2.2.2.1 ≤ mc ∧ (M y).2.2.2.2.2 ≤ ms ∧ ∃ d' Q1, d = d' + 1 ∧
    K d' (M y).2.2.2.2.1 (M y).2.2.2.2.2 (M y).1 0 (gent (M y).2.1 as) [] σ Q1 ∧ ∀ v σ', Q1 v σ' → K d (mc - (M y).2.2.2.2.1) (ms - (M y).2.2.2.2.2) C (i + 1) ls (v.toList ++ r) σ' Q
def gstq (M : gT) (K : gK) (ins : Instr) (d mc ms : Nat) (C : List Instr) (i : Nat) (ls st : List Value) (σ : gS) (Q : gP) : Prop := match ins with
  | .iconst n => K d mc ms C (i + 1) ls (.int (Int32.ofInt n) :: st) σ Q
  | .ldc2_w n => K d mc ms C (i + 1) ls (.long (Int64.ofNat n) :: st) σ Q
  | .iload k => ∃ x, ls[k]? = some (.int x) ∧ K d mc ms C (i + 1) ls (.int x :: st) σ Q
  | .lload k => ∃ x, ls[k]? = some (.long x) ∧ K d mc ms C (i + 1) ls (.long x :: st) σ Q
  | .aload k => ∃ x, ls[k]? = some (.ref x) ∧ K d mc ms C (i + 1) ls (.ref x :: st) σ Q
  | .istore k => ∃ x r, st = .int x :: r ∧ gok ls k = true ∧ k < ls.length ∧ K d mc ms C (i + 1) (ls.set k (.int x)) r σ Q
  | .astore k => ∃ x r, st = .ref x :: r ∧ gok ls k = true ∧ k < ls.length ∧ K d mc ms C (i + 1) (ls.set k (.ref x)) r σ Q
  | .lstore k => ∃ x r, st = .long x :: r ∧ gok ls k = true ∧ k + 1 < ls.length ∧ K d mc ms C (i + 1) ((ls.set k (.long x)).set (k + 1) .null) r σ Q
  | .iinc k n => ∃ x, ls[k]? = some (.int x) ∧ gok ls k = true ∧ K d mc ms C (i + 1) (ls.set k (.int (x + Int32.ofInt n))) st σ Q
  | .getfield e => ∃ a r, st = .ref a :: r ∧ gsh σ a = e / 64 ∧ K d mc ms C (i + 1) ls (.int (git σ a (e % 64)) :: r) σ Q
  | .getstatic e => ∃ a r, st = .ref a :: r ∧ gsh σ a = e / 64 ∧ K d mc ms C (i + 1) ls (.ref (grf σ a (e % 64)) :: r) σ Q
  | .dload e => ∃ a r, st = .ref a :: r ∧ gsh σ a = e / 64 ∧ K d mc ms C (i + 1) ls (.long (glg σ a (e % 64)) :: r) σ Q
  | .putfield e => ∃ x a r, st = .int x :: .ref a :: r ∧ gsh σ a = e / 64 ∧ K d mc ms C (i + 1) ls r (gsI σ a (e % 64) x) Q
  | .putstatic e => ∃ x a r, st = .ref x :: .ref a :: r ∧ gsh σ a = e / 64 ∧ K d mc ms C (i + 1) ls r (gsR σ a (e % 64) x) Q
  | .dstore e => ∃ x a r, st = .long x :: .ref a :: r ∧ gsh σ a = e / 64 ∧ K d mc ms C (i + 1) ls r (gsL σ a (e % 64) x) Q
  | .iaload => ∃ j a r n, st = .int j :: .ref a :: r ∧ gsh σ a = 100 + 3 * n ∧ vp_in j n ∧ K d mc ms C (i + 1) ls (.int (git σ a j.toNatClampNeg) :: r) σ Q
  | .baload => ∃ j a r n, st = .int j :: .ref a :: r ∧ gsh σ a = 101 + 3 * n ∧ vp_in j n ∧ K d mc ms C (i + 1) ls (.int (git σ a j.toNatClampNeg) :: r) σ Q
  | .aaload => ∃ j a r n, st = .int j :: .ref a :: r ∧ gsh σ a = 102 + 3 * n ∧ vp_in j n ∧ K d mc ms C (i + 1) ls (.ref (grf σ a j.toNatClampNeg) :: r) σ Q
  | .iastore => ∃ x j a r n, st = .int x :: .int j :: .ref a :: r ∧ gsh σ a = 100 + 3 * n ∧ a ≠ 1 ∧ vp_in j n ∧ K d mc ms C (i + 1) ls r (gsI σ a j.toNatClampNeg x) Q
  | .bastore => ∃ x j a r n, st = .int x :: .int j :: .ref a :: r ∧ gsh σ a = 101 + 3 * n ∧ (x = 0 ∨ x = 1) ∧ vp_in j n ∧ K d mc ms C (i + 1) ls r (gsI σ a j.toNatClampNeg x) Q
  | .aastore => ∃ x j a r n, st = .ref x :: .int j :: .ref a :: r ∧ gsh σ a = 102 + 3 * n ∧ gsh σ x = 4 ∧ vp_in j n ∧ K d mc ms C (i + 1) ls r (gsR σ a j.toNatClampNeg x) Q
  | .arraylength => ∃ a r n k, st = .ref a :: r ∧ gsh σ a = 100 + k + 3 * n ∧ k < 3 ∧ K d mc ms C (i + 1) ls (.int (Int32.ofNat n) :: r) σ Q
  | .new e => 1 ≤ mc ∧ e % 64 ≤ ms ∧ K d (mc - 1) (ms - e % 64) C (i + 1) ls (.ref (gsz σ + 2) :: st) (gnw σ (e / 64)) Q
  | .newarray t => ∃ n r N, st = .int n :: r ∧ n = Int32.ofNat N ∧ N ≤ 1000 ∧ gkd t < 3 ∧ 1 ≤ mc ∧ N ≤ ms ∧ K d (mc - 1) (ms - N) C (i + 1) ls (.ref (gsz σ + 2) :: r) (gnw σ (100 + gkd t + 3 * N)) Q
  | .anewarray _ => ∃ n r N, st = .int n :: r ∧ n = Int32.ofNat N ∧ N ≤ 1000 ∧ 1 ≤ mc ∧ N ≤ ms ∧ K d (mc - 1) (ms - N) C (i + 1) ls (.ref (gsz σ + 2) :: r) (gnw σ (102 + 3 * N)) Q
  | .monitorexit => ∃ a r, st = .ref a :: r ∧ gsh σ a < 99 ∧ 1 ≤ d ∧ gcat r ≤ 8 ∧ K d mc ms C (i + 1) ls r σ Q
  | .iadd => gi2 K (fun x y => x + y) d mc ms C i ls st σ Q
  | .isub => gi2 K (fun x y => x - y) d mc ms C i ls st σ Q
  | .imul => gi2 K (fun x y => x * y) d mc ms C i ls st σ Q
  | .iand => gi2 K (fun x y => x &&& y) d mc ms C i ls st σ Q
  | .ior => gi2 K (fun x y => x ||| y) d mc ms C i ls st σ Q
  | .ixor => gi2 K (fun x y => x ^^^ y) d mc ms C i ls st σ Q
  | .ishl => gi2 K (fun x y => x <<< (y &&& 31)) d mc ms C i ls st σ Q
  | .ishr => gi2 K (fun x y => x >>> (y &&& 31)) d mc ms C i ls st σ Q
  | .iushr => gi2 K (fun x y => (x.toUInt32 >>> (y.toUInt32 &&& Int32.toUInt32 31)).toInt32) d mc ms C i ls st σ Q
  | .idiv => ∃ x y r, st = .int y :: .int x :: r ∧ ¬ y = 0 ∧ K d mc ms C (i + 1) ls (.int (x / y) :: r) σ Q
  | .irem => ∃ x y r, st = .int y :: .int x :: r ∧ ¬ y = 0 ∧ K d mc ms C (i + 1) ls (.int (x - x / y * y) :: r) σ Q
  | .ineg => ∃ x r, st = .int x :: r ∧ K d mc ms C (i + 1) ls (.int (-x) :: r) σ Q
  | .ladd => gl2 K (fun x y => x + y) d mc ms C i ls st σ Q
  | .lmul => gl2 K (fun x y => x * y) d mc ms C i ls st σ Q
  | .land => gl2 K (fun x y => x &&& y) d mc ms C i ls st σ Q
  | .lor => gl2 K (fun x y => x ||| y) d mc ms C i ls st σ Q
  | .lrem => ∃ x y r, st = .long y :: .long x :: r ∧ ¬ y = 0 ∧ K d mc ms C (i + 1) ls (.long (x - x / y * y) :: r) σ Q
  | .lushr => ∃ x y r, st = .int y :: .long x :: r ∧ K d mc ms C (i + 1) ls (.long (x.toUInt64 >>> (y.toInt64.toUInt64 &&& Int64.toUInt64 63)).toInt64 :: r) σ Q
  | .lshl => ∃ x y r, st = .int y :: .long x :: r ∧ K d mc ms C (i + 1) ls (.long (x <<< (y.toInt64 &&& 63)) :: r) σ Q
  | .lcmp => ∃ x y r, st = .long y :: .long x :: r ∧ K d mc ms C (i + 1) ls (.int (lg_cmp x y) :: r) σ Q
  | .i2l => ∃ x r, st = .int x :: r ∧ K d mc ms C (i + 1) ls (.long x.toInt64 :: r) σ Q
  | .l2i => ∃ x r, st = .long x :: r ∧ K d mc ms C (i + 1) ls (.int x.toInt32 :: r) σ Q
  | .dup => ∃ v r, st = v :: r ∧ v.category = 1 ∧ K d mc ms C (i + 1) ls (v :: v :: r) σ Q
  | .dup2 => ∃ v w r, st = v :: w :: r ∧ v.category = 1 ∧ w.category = 1 ∧ K d mc ms C (i + 1) ls (v :: w :: v :: w :: r) σ Q
  | .pop => ∃ v r, st = v :: r ∧ v.category = 1 ∧ K d mc ms C (i + 1) ls r σ Q
  | .ireturn => ∃ x, st = [.int x] ∧ Q (some (.int x)) σ
  | .freturn => ∃ x, st = [.int x] ∧ (x = 0 ∨ x = 1) ∧ Q (some (.int x)) σ
  | .lreturn => ∃ x, st = [.long x] ∧ Q (some (.long x)) σ
  | .return_ => st = [] ∧ Q none σ
  | .if_icmp c t => ∃ x y r, st = .int y :: .int x :: r ∧ (gcn c x y → K d mc ms C t.toNat ls r σ Q) ∧ (¬ gcn c x y → K d mc ms C (i + 1) ls r σ Q)
  | .ifCond c t => ∃ x r, st = .int x :: r ∧ (gcn c x 0 → K d mc ms C t.toNat ls r σ Q) ∧ (¬ gcn c x 0 → K d mc ms C (i + 1) ls r σ Q)
  | .goto t => K d mc ms C t.toNat ls st σ Q
  | .tableswitch df lo hi os => ∃ x r, st = .int x :: r ∧ K d mc ms C (gtab df lo hi os x) ls r σ Q
  | .lookupswitch df ps => ∃ x r, st = .int x :: r ∧ K d mc ms C (glook df ps x) ls r σ Q
  | .invokestatic y => ∃ as r, st = as.reverse ++ r ∧ gcal M K y as r d mc ms C i ls σ Q
  | .invokevirtual y => ∃ a as r, st = as.reverse ++ .ref a :: r ∧ gsh σ a = (M y).2.2.2.1 ∧ gcal M K y (.ref a :: as) r d mc ms C i ls σ Q
  | .invokespecial y => ∃ a as r, st = as.reverse ++ .ref a :: r ∧ gsh σ a = (M y).2.2.2.1 ∧ gcal M K y (.ref a :: as) r d mc ms C i ls σ Q
  | _ => False
def gstp (M : gT) (K : gK) : gK := fun d mc ms C i ls st σ Q => ∃ ins, C[i]? = some ins ∧ gstq M K ins d mc ms C i ls st σ Q
/-- the least predicate that is closed under the steps -/
def gW (M : gT) : gK := fun d mc ms C i ls st σ Q => ∀ X : gK, (∀ d mc ms C i ls st σ Q, gstp M X d mc ms C i ls st σ Q → X d mc ms C i ls st σ Q) → X d mc ms C i ls st σ Q
theorem gcal_mono {M : gT} {K K' : gK} (h : ∀ d mc ms C i ls st σ Q, K d mc ms C i ls st σ Q → K' d mc ms C i ls st σ Q) {y : Nat} {as r : List Value} {d mc ms : Nat} {C : List Instr} {i : Nat} {ls : List Value} {σ : gS} {Q : gP} (q : gcal M K y as r d mc ms C i ls σ Q) : gcal M K' y as r d mc ms C i ls σ Q := by
  obtain ⟨h1, h2, h3, h4, d', Q1, h5, h6, h7⟩ := q
  exact ⟨h1, h2, h3, h4, d', Q1, h5, h _ _ _ _ _ _ _ _ _ h6, fun v σ' q => h _ _ _ _ _ _ _ _ _ (h7 v σ' q)⟩
set_option maxHeartbeats 4000000 in
theorem gstq_mono {M : gT} {K K' : gK} (h : ∀ d mc ms C i ls st σ Q, K d mc ms C i ls st σ Q → K' d mc ms C i ls st σ Q) {ins : Instr} {d mc ms : Nat} {C : List Instr} {i : Nat} {ls st : List Value} {σ : gS} {Q : gP} (q : gstq M K ins d mc ms C i ls st σ Q) : gstq M K' ins d mc ms C i ls st σ Q := by
  cases ins <;> simp only [gstq, gi2, gl2] at q ⊢
  all_goals first
    | exact q
    | exact h _ _ _ _ _ _ _ _ _ q
    | (obtain ⟨a, q⟩ := q; first
        | exact ⟨a, h _ _ _ _ _ _ _ _ _ q⟩
        | (obtain ⟨b, q⟩ := q; first
          | exact ⟨a, b, h _ _ _ _ _ _ _ _ _ q⟩
          | (obtain ⟨c, q⟩ := q; first
            | exact ⟨a, b, c, h _ _ _ _ _ _ _ _ _ q⟩
            | exact ⟨a, b, c, gcal_mono h q⟩
            | (obtain ⟨d, q⟩ := q; first
              | exact ⟨a, b, c, d, h _ _ _ _ _ _ _ _ _ q⟩
              | exact ⟨a, b, c, fun z => h _ _ _ _ _ _ _ _ _ (d z), fun z => h _ _ _ _ _ _ _ _ _ (q z)⟩
              | (obtain ⟨e, q⟩ := q; first
                | exact ⟨a, b, c, d, e, h _ _ _ _ _ _ _ _ _ q⟩
                | exact ⟨a, b, c, d, e, gcal_mono h q⟩
                | exact ⟨a, b, c, d, fun z => h _ _ _ _ _ _ _ _ _ (e z), fun z => h _ _ _ _ _ _ _ _ _ (q z)⟩
                | (obtain ⟨f, q⟩ := q; first
                  | exact ⟨a, b, c, d, e, f, h _ _ _ _ _ _ _ _ _ q⟩
                  | (obtain ⟨g, q⟩ := q; first
                    | exact ⟨a, b, c, d, e, f, g, h _ _ _ _ _ _ _ _ _ q⟩
                    | (obtain ⟨g2, q⟩ := q; first
                      | exact ⟨a, b, c, d, e, f, g, g2, h _ _ _ _ _ _ _ _ _ q⟩
                      | (obtain ⟨g3, q⟩ := q; first
                        | exact ⟨a, b, c, d, e, f, g, g2, g3, h _ _ _ _ _ _ _ _ _ q⟩
                        | (obtain ⟨g4, q⟩ := q; exact ⟨a, b, c, d, e, f, g, g2, g3, g4, h _ _ _ _ _ _ _ _ _ q⟩))))))))))
theorem gW_of {M : gT} {d mc ms : Nat} {C : List Instr} {i : Nat} {ls st : List Value} {σ : gS} {Q : gP} {ins : Instr} (hc : C[i]? = some ins) (q : gstq M (gW M) ins d mc ms C i ls st σ Q) : gW M d mc ms C i ls st σ Q := by
  intro X hX
  exact hX _ _ _ _ _ _ _ _ _ ⟨ins, hc, gstq_mono (fun d mc ms C i ls st σ Q z => z X hX) q⟩
/-- a method's run: from its entry with these arguments -/
def gR (M : gT) (d y : Nat) (as : List Value) (σ : gS) (Q : gP) : Prop := gW M d (M y).2.2.2.2.1 (M y).2.2.2.2.2 (M y).1 0 (gent (M y).2.1 as) [] σ Q
end
section
/-! THE ABSTRACT MACHINE'S CELLS AS A WORLD OF THE MACHINE: cell a (2 and on) lies at b + (a - 2), the script (1) at b0. -/
def gm (b0 b : Nat) (a : Nat) : Option Nat := match a with
  | 0 => none
  | 1 => some b0
  | k + 2 => some (b + k)
def gv (b0 b : Nat) (v : Value) : Value := match v with
  | .ref a => va_rf (gm b0 b a)
  | v => v
def gty (x : Nat) : Nat → FieldType := match x with
  | 0 => tyX0
  | 1 => tyX1
  | 2 => tyX2
  | 3 => tyX3
  | 4 => tyX4
  | 5 => tyX5
  | 6 => tyX6
  | 7 => tyX7
  | _ => tyX8
def gnf (x : Nat) : Nat := ((vwCl[x]?).map (fun r => r.2.2)).getD 0
def gfv (b0 b : Nat) (σ : gS) (ty : FieldType) (a j : Nat) : Value := match ty with
  | .int => .int (git σ a j)
  | .long => .long (glg σ a j)
  | _ => va_rf (gm b0 b (grf σ a j))
def gfs (b0 b : Nat) (σ : gS) (x a : Nat) : List Value := (List.range (gnf x)).map (fun j => gfv b0 b σ (gty x j) a j)
abbrev gG3 : Type := ClassId × ClassId × ClassId
def garr (b0 b : Nat) (G : gG3) (σ : gS) (k n a : Nat) : va_E := match k with
  | 0 => .inl (G.1, n, .inl (git σ a))
  | 1 => .inl (G.2.1, n, .inl (git σ a))
  | _ => .inl (G.2.2, n, .inr (.inr (.inr (.inr (fun j => gm b0 b (grf σ a j))))))
def gcell (b0 b : Nat) (G : gG3) (σ : gS) (a : Nat) : va_E :=
  if gsh σ a < 99 then .inr (gsh σ a, gfs b0 b σ (gsh σ a) a) else garr b0 b G σ ((gsh σ a - 100) % 3) ((gsh σ a - 100) / 3) a
def gws (b0 b : Nat) (G : gG3) (σ : gS) : va_W := (List.range (gsz σ)).map (fun k => (b + k, gcell b0 b G σ (k + 2)))
theorem gws_at {b0 b : Nat} {G : gG3} {σ : gS} {a : Nat} (h2 : 2 ≤ a) (h : a < gsz σ + 2) : (gws b0 b G σ)[a - 2]? = some (b + (a - 2), gcell b0 b G σ a) := by
  have e : a - 2 < gsz σ := by omega
  rw [gws, List.getElem?_map, List.getElem?_range e]
  show some (b + (a - 2), gcell b0 b G σ (a - 2 + 2)) = _
  rw [show a - 2 + 2 = a by omega]
theorem gws_len {b0 b : Nat} {G : gG3} {σ : gS} : (gws b0 b G σ).length = gsz σ := by simp [gws]
theorem gm_2 {b0 b a : Nat} (h2 : 2 ≤ a) : gm b0 b a = some (b + (a - 2)) := by
  obtain ⟨k, rfl⟩ : ∃ k, a = k + 2 := ⟨a - 2, by omega⟩
  rfl
theorem gv_2 {b0 b a : Nat} (h2 : 2 ≤ a) : gv b0 b (.ref a) = .ref (b + (a - 2)) := by
  show va_rf (gm b0 b a) = _
  rw [gm_2 h2]
  rfl
/-- a change of one cell -/
theorem gws_set {b0 b : Nat} {G : gG3} {σ σ' : gS} {a : Nat} (h2 : 2 ≤ a) (hz : gsz σ' = gsz σ) (hc : ∀ a', a' ≠ a → gcell b0 b G σ' a' = gcell b0 b G σ a') : gws b0 b G σ' = (gws b0 b G σ).set (a - 2) (b + (a - 2), gcell b0 b G σ' a) := by
  apply List.ext_getElem?
  intro k
  by_cases hk : k < gsz σ
  · have e1 : (gws b0 b G σ')[k]? = some (b + k, gcell b0 b G σ' (k + 2)) := by
      have := gws_at (b0 := b0) (b := b) (G := G) (σ := σ') (a := k + 2) (by omega) (by omega)
      simpa using this
    have e2 : (gws b0 b G σ)[k]? = some (b + k, gcell b0 b G σ (k + 2)) := by
      have := gws_at (b0 := b0) (b := b) (G := G) (σ := σ) (a := k + 2) (by omega) (by omega)
      simpa using this
    by_cases hka : k = a - 2
    · subst hka
      rw [e1, List.getElem?_set_self (by rw [gws_len]; exact hk), show a - 2 + 2 = a by omega]
    · rw [e1, List.getElem?_set_ne (fun q => hka q.symm), e2, hc (k + 2) (by omega)]
  · rw [List.getElem?_eq_none (by rw [gws_len]; omega), List.getElem?_eq_none (by rw [List.length_set, gws_len]; omega)]
theorem gu2_other {α : Type} {f : Nat → Nat → α} {a j : Nat} {v : α} {a' : Nat} (h : a' ≠ a) : gu2 f a j v a' = f a' := by
  funext j'
  simp [gu2, h]
theorem gu2_self {α : Type} {f : Nat → Nat → α} {a j : Nat} {v : α} {j' : Nat} : gu2 f a j v a j' = if j' = j then v else f a j' := by
  simp [gu2]
theorem gcell_obj {b0 b : Nat} {G : gG3} {σ : gS} {a x : Nat} (h : gsh σ a = x) (hx : x < 99) : gcell b0 b G σ a = .inr (x, gfs b0 b σ x a) := by
  subst h
  simp [gcell, hx]
theorem gcell_arr {b0 b : Nat} {G : gG3} {σ : gS} {a n k : Nat} (h : gsh σ a = 100 + k + 3 * n) (hk : k < 3) : gcell b0 b G σ a = garr b0 b G σ k n a := by
  have e1 : (gsh σ a - 100) % 3 = k := by omega
  have e2 : (gsh σ a - 100) / 3 = n := by omega
  rw [gcell, if_neg (by omega), e1, e2]
theorem gfs_get {b0 b : Nat} {σ : gS} {x a k : Nat} (h : k < gnf x) : (gfs b0 b σ x a)[k]? = some (gfv b0 b σ (gty x k) a k) := by
  rw [gfs, List.getElem?_map, List.getElem?_range h]
  rfl
theorem gfs_len {b0 b : Nat} {σ : gS} {x a : Nat} : (gfs b0 b σ x a).length = gnf x := by simp [gfs]
/-- the same fields but one -/
theorem gfs_set {b0 b : Nat} {σ σ' : gS} {x a k : Nat} {v : Value} (hk : k < gnf x) (hv : gfv b0 b σ' (gty x k) a k = v) (ho : ∀ j, j ≠ k → gfv b0 b σ' (gty x j) a j = gfv b0 b σ (gty x j) a j) : gfs b0 b σ' x a = (gfs b0 b σ x a).set k v := by
  apply List.ext_getElem?
  intro j
  by_cases hj : j < gnf x
  · by_cases hjk : j = k
    · subst hjk
      rw [gfs_get hj, List.getElem?_set_self (by rw [gfs_len]; exact hj), hv]
    · rw [gfs_get hj, List.getElem?_set_ne (fun q => hjk q.symm), gfs_get hj, ho j hjk]
  · rw [List.getElem?_eq_none (by rw [gfs_len]; omega), List.getElem?_eq_none (by rw [List.length_set, gfs_len]; omega)]
theorem gfv_other {b0 b : Nat} {σ σ' : gS} {a : Nat} (h1 : git σ' a = git σ a) (h2 : glg σ' a = glg σ a) (h3 : grf σ' a = grf σ a) (ty : FieldType) (j : Nat) : gfv b0 b σ' ty a j = gfv b0 b σ ty a j := by
  cases ty <;> simp [gfv, h1, h2, h3]
theorem gcell_other {b0 b : Nat} {G : gG3} {σ σ' : gS} {a : Nat} (h0 : gsh σ' a = gsh σ a) (h1 : git σ' a = git σ a) (h2 : glg σ' a = glg σ a) (h3 : grf σ' a = grf σ a) : gcell b0 b G σ' a = gcell b0 b G σ a := by
  have e : ∀ k n, garr b0 b G σ' k n a = garr b0 b G σ k n a := fun k n => by
    match k with
    | 0 => simp [garr, h1]
    | 1 => simp [garr, h1]
    | _ + 2 => simp [garr, h3]
  have e2 : gfs b0 b σ' (gsh σ a) a = gfs b0 b σ (gsh σ a) a := by
    simp only [gfs]
    apply List.map_congr_left
    intro j _
    exact gfv_other h1 h2 h3 _ _
  rw [gcell, gcell, h0, e, e2]
theorem git_I {σ : gS} {a j : Nat} {v : Int32} {a' : Nat} (h : a' ≠ a) : git (gsI σ a j v) a' = git σ a' := gu2_other h
theorem glg_L {σ : gS} {a j : Nat} {v : Int64} {a' : Nat} (h : a' ≠ a) : glg (gsL σ a j v) a' = glg σ a' := gu2_other h
theorem grf_R {σ : gS} {a j : Nat} {v : Nat} {a' : Nat} (h : a' ≠ a) : grf (gsR σ a j v) a' = grf σ a' := gu2_other h
theorem gws_I {b0 b : Nat} {G : gG3} {σ : gS} {a x k : Nat} {v : Int32} (h2 : 2 ≤ a) (h : gsh σ a = x) (hx : x < 99) (hk : k < gnf x) (ht : gty x k = .int) : gws b0 b G (gsI σ a k v) = (gws b0 b G σ).set (a - 2) (b + (a - 2), .inr (x, (gfs b0 b σ x a).set k (.int v))) := by
  have e := gws_set (b0 := b0) (b := b) (G := G) (σ := σ) (σ' := gsI σ a k v) h2 rfl (fun a' ha => gcell_other rfl (git_I ha) rfl rfl)
  rw [e, gcell_obj (σ := gsI σ a k v) (x := x) h hx, gfs_set (σ := σ) (σ' := gsI σ a k v) hk (v := .int v) ?_ ?_]
  · rw [ht]
    show Value.int (gu2 _ a k v a k) = _
    simp [gu2]
  · intro j hj
    have : git (gsI σ a k v) a j = git σ a j := by
      show gu2 _ a k v a j = _
      rw [gu2_self, if_neg hj]
      rfl
    cases gty x j <;> first | rfl | exact congrArg Value.int this
theorem gws_L {b0 b : Nat} {G : gG3} {σ : gS} {a x k : Nat} {v : Int64} (h2 : 2 ≤ a) (h : gsh σ a = x) (hx : x < 99) (hk : k < gnf x) (ht : gty x k = .long) : gws b0 b G (gsL σ a k v) = (gws b0 b G σ).set (a - 2) (b + (a - 2), .inr (x, (gfs b0 b σ x a).set k (.long v))) := by
  have e := gws_set (b0 := b0) (b := b) (G := G) (σ := σ) (σ' := gsL σ a k v) h2 rfl (fun a' ha => gcell_other rfl rfl (glg_L ha) rfl)
  rw [e, gcell_obj (σ := gsL σ a k v) (x := x) h hx, gfs_set (σ := σ) (σ' := gsL σ a k v) hk (v := .long v) ?_ ?_]
  · rw [ht]
    show Value.long (gu2 _ a k v a k) = _
    simp [gu2]
  · intro j hj
    have : glg (gsL σ a k v) a j = glg σ a j := by
      show gu2 _ a k v a j = _
      rw [gu2_self, if_neg hj]
      rfl
    cases gty x j <;> first | rfl | exact congrArg Value.long this
def gisr (ty : FieldType) : Bool := match ty with
  | .object _ => true
  | .array _ => true
  | _ => false
theorem gws_R {b0 b : Nat} {G : gG3} {σ : gS} {a x k v : Nat} (h2 : 2 ≤ a) (h : gsh σ a = x) (hx : x < 99) (hk : k < gnf x) (ht : gisr (gty x k) = true) : gws b0 b G (gsR σ a k v) = (gws b0 b G σ).set (a - 2) (b + (a - 2), .inr (x, (gfs b0 b σ x a).set k (gv b0 b (.ref v)))) := by
  have e := gws_set (b0 := b0) (b := b) (G := G) (σ := σ) (σ' := gsR σ a k v) h2 rfl (fun a' ha => gcell_other rfl rfl rfl (grf_R ha))
  have self : grf (gsR σ a k v) a k = v := by
    show gu2 _ a k v a k = _
    simp [gu2]
  rw [e, gcell_obj (σ := gsR σ a k v) (x := x) h hx, gfs_set (σ := σ) (σ' := gsR σ a k v) hk (v := gv b0 b (.ref v)) ?_ ?_]
  · show _ = va_rf (gm b0 b v)
    cases hq : gty x k <;> rw [hq] at ht <;> first | (simp [gisr] at ht; done) | exact congrArg (fun z => va_rf (gm b0 b z)) self
  · intro j hj
    have : grf (gsR σ a k v) a j = grf σ a j := by
      show gu2 _ a k v a j = _
      rw [gu2_self, if_neg hj]
      rfl
    cases gty x j <;> first | rfl | exact congrArg (fun z => va_rf (gm b0 b z)) this
theorem gws_A0 {b0 b : Nat} {G : gG3} {σ : gS} {a n j : Nat} {v : Int32} (h2 : 2 ≤ a) (h : gsh σ a = 100 + 3 * n) : gws b0 b G (gsI σ a j v) = (gws b0 b G σ).set (a - 2) (b + (a - 2), .inl (G.1, n, .inl (upd (git σ a) j v))) := by
  have e := gws_set (b0 := b0) (b := b) (G := G) (σ := σ) (σ' := gsI σ a j v) h2 rfl (fun a' ha => gcell_other rfl (git_I ha) rfl rfl)
  rw [e, gcell_arr (σ := gsI σ a j v) (k := 0) (n := n) h (by omega)]
  have : git (gsI σ a j v) a = upd (git σ a) j v := by
    funext j'
    show gu2 _ a j v a j' = _
    rw [gu2_self]
    rfl
  simp [garr, this]
theorem gws_A1 {b0 b : Nat} {G : gG3} {σ : gS} {a n j : Nat} {v : Int32} (h2 : 2 ≤ a) (h : gsh σ a = 101 + 3 * n) : gws b0 b G (gsI σ a j v) = (gws b0 b G σ).set (a - 2) (b + (a - 2), .inl (G.2.1, n, .inl (upd (git σ a) j v))) := by
  have e := gws_set (b0 := b0) (b := b) (G := G) (σ := σ) (σ' := gsI σ a j v) h2 rfl (fun a' ha => gcell_other rfl (git_I ha) rfl rfl)
  rw [e, gcell_arr (σ := gsI σ a j v) (k := 1) (n := n) h (by omega)]
  have : git (gsI σ a j v) a = upd (git σ a) j v := by
    funext j'
    show gu2 _ a j v a j' = _
    rw [gu2_self]
    rfl
  simp [garr, this]
theorem gws_A2 {b0 b : Nat} {G : gG3} {σ : gS} {a n j v : Nat} (h2 : 2 ≤ a) (h : gsh σ a = 102 + 3 * n) : gws b0 b G (gsR σ a j v) = (gws b0 b G σ).set (a - 2) (b + (a - 2), .inl (G.2.2, n, .inr (.inr (.inr (.inr (va_up (fun j => gm b0 b (grf σ a j)) j (gm b0 b v))))))) := by
  have e := gws_set (b0 := b0) (b := b) (G := G) (σ := σ) (σ' := gsR σ a j v) h2 rfl (fun a' ha => gcell_other rfl rfl rfl (grf_R ha))
  rw [e, gcell_arr (σ := gsR σ a j v) (k := 2) (n := n) h (by omega)]
  have : (fun j' => gm b0 b (grf (gsR σ a j v) a j')) = va_up (fun j => gm b0 b (grf σ a j)) j (gm b0 b v) := by
    funext j'
    show gm b0 b (gu2 _ a j v a j') = _
    rw [gu2_self]
    by_cases hj : j' = j
    · simp [hj, va_up]
    · simp [hj, va_up]
      rfl
  simp [garr, this]
/-- a new cell behind the others -/
theorem gws_new {b0 b : Nat} {G : gG3} {σ : gS} {x : Nat} : gws b0 b G (gnw σ x) = gws b0 b G σ ++ [(b + gsz σ, gcell b0 b G (gnw σ x) (gsz σ + 2))] := by
  have hz : gsz (gnw σ x) = gsz σ + 1 := rfl
  rw [gws, hz, List.range_succ, List.map_append, gws]
  congr 1
  apply List.map_congr_left
  intro k hk
  have hk := List.mem_range.mp hk
  have n1 : k + 2 ≠ gsz σ + 2 := by omega
  have n2 : ¬ k + 2 = σ.1.1 + 2 := n1
  rw [gcell_other (σ := σ) (σ' := gnw σ x)]
  · show (if k + 2 = σ.1.1 + 2 then x else σ.1.2 (k + 2)) = _
    rw [if_neg n2]
    rfl
  · funext j
    show (if k + 2 = σ.1.1 + 2 then _ else σ.2.2.1 (k + 2) j) = _
    rw [if_neg n2]
    rfl
  · funext j
    show (if k + 2 = σ.1.1 + 2 then _ else σ.2.2.2 (k + 2) j) = _
    rw [if_neg n2]
    rfl
  · funext j
    show (if k + 2 = σ.1.1 + 2 then _ else σ.2.1 (k + 2) j) = _
    rw [if_neg n2]
    rfl
theorem gD {b0 b : Nat} {G : gG3} {σ : gS} : va_D (fun q => b ≤ q) (gws b0 b G σ) := by
  have key : ∀ (k : Nat) (q : Nat × va_E), (gws b0 b G σ)[k]? = some q → q.1 = b + k := by
    intro k q h
    have hk : k < gsz σ := by
      have := (List.getElem?_eq_some_iff.mp h).1
      rwa [gws_len] at this
    rw [gws, List.getElem?_map, List.getElem?_range hk] at h
    cases h
    rfl
  refine ⟨fun i j p q h1 h2 h3 => ?_, fun k q h => ?_⟩
  · have := key i p h1
    have := key j q h2
    omega
  · have := key k q h
    show b ≤ q.1
    omega
/-- the shapes: nothing is at 0 nor behind the last; the script is a row of L ints -/
def gInv (L : Nat) (σ : gS) : Prop := (∀ a, a = 0 ∨ gsz σ + 2 ≤ a → gsh σ a = 99) ∧ gsh σ 1 = 100 + 3 * L
theorem gInv.lo {L : Nat} {σ : gS} (h : gInv L σ) {a x : Nat} (hs : gsh σ a = x) (hx : x ≠ 99) : a ≠ 0 ∧ a < gsz σ + 2 := by
  refine ⟨fun q => hx (by rw [← hs, q]; exact h.1 0 (Or.inl rfl)), Nat.not_le.mp fun q => hx (by rw [← hs]; exact h.1 a (Or.inr q))⟩
theorem gInv.obj {L : Nat} {σ : gS} (h : gInv L σ) {a x : Nat} (hs : gsh σ a = x) (hx : x < 99) : 2 ≤ a ∧ a < gsz σ + 2 := by
  obtain ⟨h1, h2⟩ := h.lo hs (by omega)
  refine ⟨?_, h2⟩
  have : a ≠ 1 := fun q => by
    rw [q, h.2] at hs
    omega
  omega
theorem gInv.new {L : Nat} {σ : gS} (h : gInv L σ) {x : Nat} : gInv L (gnw σ x) := by
  refine ⟨fun a ha => ?_, ?_⟩
  · have hz : gsz (gnw σ x) = gsz σ + 1 := rfl
    rw [hz] at ha
    show (if a = σ.1.1 + 2 then x else σ.1.2 a) = 99
    have : ¬ a = σ.1.1 + 2 := fun q => by
      have : gsz σ = σ.1.1 := rfl
      omega
    rw [if_neg this]
    exact h.1 a (by omega)
  · show (if 1 = σ.1.1 + 2 then x else σ.1.2 1) = _
    rw [if_neg (by omega)]
    exact h.2
/-- what the heap holds -/
def gRel (b0 b : Nat) (D : va_G) (G : gG3) (L : Nat) (σ : gS) (U : State) (H : Heap) : Prop :=
  va_P D vwCl (gws b0 b G σ) H ∧ H.size = b + gsz σ ∧ gInv L σ ∧ va_X b0 L (git σ 1) U H
end
section
/-! LOCALS, AND THE CHECK THAT AN ABSTRACT CODE IS A METHOD'S BYTECODE -/
def gLV (b0 b nL : Nat) (ls : List Value) (lsR : Array Slot) : Prop := lv_has lsR nL [] ∧ ls.length = nL ∧ ∀ (j : Nat) (v : Value), ls[j]? = some v → v ≠ .null → lsR[j]? = some (.val (gv b0 b v))
def gasc (b0 b : Nat) (ls : List Value) : List (Nat × Value) := (List.range ls.length).filterMap (fun (j : Nat) => match ls[j]? with
  | some (Value.null) => none
  | some v => some (j, gv b0 b v)
  | none => none)
theorem gasc_mem {b0 b : Nat} {ls : List Value} {q : Nat × Value} : q ∈ gasc b0 b ls ↔ ∃ v, ls[q.1]? = some v ∧ v ≠ .null ∧ q.2 = gv b0 b v := by
  simp only [gasc, List.mem_filterMap, List.mem_range]
  constructor
  · rintro ⟨j, hj, h⟩
    cases hv : ls[j]? with
    | none => rw [hv] at h; cases h
    | some v =>
      rw [hv] at h
      cases v <;> first | (cases h; done) | (cases h; exact ⟨_, hv, by simp, rfl⟩)
  · rintro ⟨v, h1, h2, h3⟩
    refine ⟨q.1, (List.getElem?_eq_some_iff.mp h1).1, ?_⟩
    rw [h1]
    obtain ⟨q1, q2⟩ := q
    cases v <;> first | (exact absurd rfl h2) | (simp only at h3; rw [h3])
theorem gLV.has {b0 b nL : Nat} {ls : List Value} {lsR : Array Slot} (h : gLV b0 b nL ls lsR) : lv_has lsR nL (gasc b0 b ls) := by
  refine ⟨h.1.1, h.1.2.1, fun q hq => ?_⟩
  obtain ⟨v, h1, h2, h3⟩ := gasc_mem.mp hq
  rw [h3]
  exact h.2.2 q.1 v h1 h2
theorem gv_cat {b0 b : Nat} {v : Value} (h : (gv b0 b v).category = 2) : (∃ x, v = .long x) ∨ ∃ x, v = .double x := by
  cases v with
  | ref a =>
    exfalso
    revert h
    show ¬ (va_rf (gm b0 b a)).category = 2
    cases gm b0 b a <;> simp [va_rf, Value.category]
  | long x => exact Or.inl ⟨x, rfl⟩
  | double x => exact Or.inr ⟨x, rfl⟩
  | _ => simp [gv, Value.category] at h
theorem gok_ne {ls : List Value} {k j : Nat} {v : Value} (h : gok ls k = true) (hj : j + 1 = k) (hv : ls[j]? = some v) (b0 b : Nat) : ¬ (gv b0 b v).category = 2 := by
  intro hc
  subst hj
  rcases gv_cat hc with ⟨x, rfl⟩ | ⟨x, rfl⟩ <;> simp [gok, hv] at h
theorem gLV.store1 {b0 b nL k : Nat} {ls : List Value} {ls' : Array Slot} {v : Value} (hlen : ls.length = nL) (hok : gok ls k = true) (hk : k < nL)
    (h : lv_has ls' nL ((k, gv b0 b v) :: (gasc b0 b ls).filter (fun q => !(q.1 == k) && !(q.1 + 1 == k && q.2.category == 2)))) : gLV b0 b nL (ls.set k v) ls' := by
  refine ⟨⟨h.1, h.2.1, fun q hq => by cases hq⟩, by rw [List.length_set]; exact hlen, fun j w hw hn => ?_⟩
  by_cases hj : j = k
  · subst hj
    rw [List.getElem?_set_self (by omega)] at hw
    cases hw
    exact h.2.2 (j, gv b0 b v) List.mem_cons_self
  · rw [List.getElem?_set_ne (fun q => hj q.symm)] at hw
    refine h.2.2 (j, gv b0 b w) (List.mem_cons_of_mem _ (List.mem_filter.mpr ⟨gasc_mem.mpr ⟨w, hw, hn, rfl⟩, ?_⟩))
    simp only [Bool.and_eq_true, Bool.not_eq_true', beq_eq_false_iff_ne, ne_eq, Bool.and_eq_false_iff]
    refine ⟨hj, ?_⟩
    by_cases h1 : j + 1 = k
    · exact Or.inr (gok_ne hok h1 hw b0 b)
    · exact Or.inl h1
theorem gLV.store2 {b0 b nL k : Nat} {ls : List Value} {ls' : Array Slot} {v : Value} (hlen : ls.length = nL) (hok : gok ls k = true) (hk : k + 1 < nL)
    (h : lv_has ls' nL ((k, gv b0 b v) :: (gasc b0 b ls).filter (fun q => !(q.1 == k) && (!(q.1 == k + 1) && !(q.1 + 1 == k && q.2.category == 2))))) : gLV b0 b nL ((ls.set k v).set (k + 1) .null) ls' := by
  refine ⟨⟨h.1, h.2.1, fun q hq => by cases hq⟩, by rw [List.length_set, List.length_set]; exact hlen, fun j w hw hn => ?_⟩
  by_cases hj1 : j = k + 1
  · subst hj1
    rw [List.getElem?_set_self (by rw [List.length_set]; omega)] at hw
    cases hw
    exact absurd rfl hn
  · rw [List.getElem?_set_ne (fun q => hj1 q.symm)] at hw
    by_cases hj : j = k
    · subst hj
      rw [List.getElem?_set_self (by omega)] at hw
      cases hw
      exact h.2.2 (j, gv b0 b v) List.mem_cons_self
    · rw [List.getElem?_set_ne (fun q => hj q.symm)] at hw
      refine h.2.2 (j, gv b0 b w) (List.mem_cons_of_mem _ (List.mem_filter.mpr ⟨gasc_mem.mpr ⟨w, hw, hn, rfl⟩, ?_⟩))
      simp only [Bool.and_eq_true, Bool.not_eq_true', beq_eq_false_iff_ne, ne_eq, Bool.and_eq_false_iff]
      refine ⟨hj, hj1, ?_⟩
      by_cases h1 : j + 1 = k
      · exact Or.inr (gok_ne hok h1 hw b0 b)
      · exact Or.inl h1
theorem gv_catE (b0 b : Nat) (v : Value) : (gv b0 b v).category = v.category := by
  cases v with
  | ref a =>
    show (va_rf (gm b0 b a)).category = _
    cases gm b0 b a <;> simp [va_rf, Value.category]
  | _ => rfl
/-- at a method's entry -/
theorem glay_args {b0 b : Nat} : ∀ (as : List Value) (i : Nat) (j : Nat) (v : Value), (∀ x, .double x ∉ as) → (glay as)[j]? = some v → v ≠ .null → (i + j, gv b0 b v) ∈ lv_args i (as.map (gv b0 b))
  | [], i, j, v, _, h, _ => by simp [glay] at h
  | w :: r, i, j, v, hd, h, hn => by
    have hd' : ∀ x, Value.double x ∉ r := fun x q => hd x (List.mem_cons_of_mem _ q)
    show (i + j, gv b0 b v) ∈ (i, gv b0 b w) :: lv_args (if (gv b0 b w).category = 2 then i + 2 else i + 1) (r.map (gv b0 b))
    rw [gv_catE]
    by_cases hl : ∃ x, w = .long x
    · obtain ⟨x, rfl⟩ := hl
      rw [if_pos (show (Value.long x).category = 2 from rfl)]
      match j, h with
      | 0, h =>
        cases h
        exact List.mem_cons_self
      | 1, h =>
        cases h
        exact absurd rfl hn
      | j + 2, h =>
        have := glay_args (b0 := b0) (b := b) r (i + 2) j v hd' h hn
        rw [show i + (j + 2) = i + 2 + j by omega]
        exact List.mem_cons_of_mem _ this
    · have e : glay (w :: r) = w :: glay r := by
        cases w <;> first | rfl | (exact absurd ⟨_, rfl⟩ hl)
      have c1 : ¬ w.category = 2 := by
        cases w <;> first | (exact absurd ⟨_, rfl⟩ hl) | (exact absurd List.mem_cons_self (hd _)) | simp [Value.category]
      rw [e] at h
      rw [if_neg c1]
      match j, h with
      | 0, h =>
        cases h
        exact List.mem_cons_self
      | j + 1, h =>
        have := glay_args (b0 := b0) (b := b) r (i + 1) j v hd' h hn
        rw [show i + (j + 1) = i + 1 + j by omega]
        exact List.mem_cons_of_mem _ this
theorem glay_len {b0 b : Nat} : ∀ (as : List Value), (∀ x, .double x ∉ as) → (lg_sl (as.map (gv b0 b))).length = (glay as).length
  | [], _ => rfl
  | w :: r, hd => by
    have ih := glay_len (b0 := b0) (b := b) r (fun x q => hd x (List.mem_cons_of_mem _ q))
    have e : lg_sl ((w :: r).map (gv b0 b)) = (if (gv b0 b w).category = 2 then [.val (gv b0 b w), .second] else [.val (gv b0 b w)]) ++ lg_sl (r.map (gv b0 b)) := rfl
    rw [e, gv_catE, List.length_append, ih]
    cases w with
    | long x => simp [glay, Value.category]; omega
    | double x => exact absurd List.mem_cons_self (hd x)
    | _ => simp [glay, Value.category]; omega
theorem gLV.entry {b0 b n : Nat} {as : List Value} (hd : ∀ x, .double x ∉ as) (h : (glay as).length ≤ n) : gLV b0 b n (gent n as) ((lg_sl (as.map (gv b0 b)) ++ List.replicate (n - (lg_sl (as.map (gv b0 b))).length) Slot.unset).toArray) := by
  have e := lv_entry (as.map (gv b0 b)) (n := n) (by rw [glay_len as hd]; exact h)
  refine ⟨⟨e.1, e.2.1, fun q hq => by cases hq⟩, ?_, fun j v hj hn => ?_⟩
  · rw [gent, List.length_append, List.length_replicate]
    omega
  · rw [gent] at hj
    by_cases hl : j < (glay as).length
    · rw [List.getElem?_append_left hl] at hj
      have := glay_args (b0 := b0) (b := b) as 0 j v hd hj hn
      rw [Nat.zero_add] at this
      exact e.2.2 _ this
    · rw [List.getElem?_append_right (by omega)] at hj
      have := List.mem_of_getElem? hj
      exact absurd (List.eq_of_mem_replicate this) hn
/-! the words -/
def gGw : List Cond := lw_tbl.filter goodWord
def gw (pl : Nat) (w : Cond) : Bool := decide (lw_tbl[pl]? = some w) && goodWord w
theorem gw_mem {pl : Nat} {w : Cond} (h : gw pl w = true) : w ∈ gGw := by
  simp only [gw, Bool.and_eq_true, decide_eq_true_eq] at h
  exact List.mem_filter.mpr ⟨List.mem_of_getElem? h.1, h.2⟩
theorem gGw_good : GoodIn gGw gGw := fun w hw => ⟨hw, good_of_word (List.mem_filter.mp hw).2⟩
/-- pc, length, instruction, place of its word -/
abbrev gQ : Type := List (Nat × Nat × Instr × Nat)
/-- a method's name, bytes, what it returns, its instructions, whether it is static, places of its words: code, initialized, static or instanceMethod, selects -/
abbrev gN : Type := Nat → MethodName × ByteArray × Option FieldType × gQ × Bool × Nat × Nat × Nat × Nat
def gpc (q : gQ) (t : Int) : Option Int := (q[t.toNat]?).map (fun z => (z.1 : Int))
def gTT (x k : Nat) : String × String × String × Bool := ((vwCl[x]?).map (fun r => r.2.1 k)).getD ("", "", "", false)
def gRX (x : Nat) : String := ((vwCl[x]?).map (fun r => r.1)).getD ""
/-- links between nest mates -/
def gnest : List (String × Nat × MethodName × String) := [(RX7, 15, yX1_init, RX7), (RX7, 25, yX4_init, RX7), (RX7, 50, yX2_init, RX7), (RX7, 64, yX3_init, RX7), (RX7, 71, yX6_init, RX7), (RX0, 17, yX4_init, RX7), (RX1, 78, yX7_isKind, RX7), (RX5, 19, yX4_init, RX7), (RX5, 24, yX6_init, RX7)]
def gfl (own : String) (e pl : Nat) (re : Instr) (isPut : Bool) (ini : Bool) (len : Nat) : Bool :=
  decide (e / 64 < 9) && decide (e % 64 < gnf (e / 64)) && decide (len = 3) &&
  match isPut, re with
  | false, .getfield k => gw pl (.fieldLink own k (gTT (e / 64) (e % 64)).1 (gTT (e / 64) (e % 64)).2.1 (gTT (e / 64) (e % 64)).2.2.1)
  | true, .putfield k => gw pl (.fieldLink own k (gTT (e / 64) (e % 64)).1 (gTT (e / 64) (e % 64)).2.1 (gTT (e / 64) (e % 64)).2.2.1) && (decide ((gTT (e / 64) (e % 64)).2.2.2 = false) || (ini && decide ((gTT (e / 64) (e % 64)).1 = own)))
  | _, _ => false
/-- a link to a method: plain, or between nest mates (places from 10000 on) -/
def gml (own : String) (k : Nat) (y : MethodName) (pl : Nat) : Bool :=
  if pl < 10000 then gw pl (.methodLink own k y) else match gnest[pl - 10000]? with
    | some (a, j, z, _) => decide (a = own) && decide (j = k) && decide (z = y)
    | none => false
/-- the abstract instruction ins stands for the instruction re of that length at pc -/
def gcor (N : gN) (nM : Nat) (own : String) (ret : Option FieldType) (ini : Bool) (q : gQ) (i : Nat) (ins : Instr) (pc len : Nat) (re : Instr) (pl : Nat) : Bool :=
  let nx : Bool := decide (gpc q ((i + 1 : Nat) : Int) = some ((pc : Int) + (len : Int)))
  match ins with
  | .iconst n => nx && match re with
    | .iconst k => decide (Int32.ofInt k = Int32.ofInt n) && decide (len = 1)
    | .bipush k => decide ((Int8.ofInt k).toInt32 = Int32.ofInt n) && decide (len = 2)
    | .sipush k => decide ((Int16.ofInt k).toInt32 = Int32.ofInt n) && decide (len = 3)
    | .ldc_w k => gw pl (.constant own k (Int32.ofInt n)) && decide (len = 3)
    | _ => false
  | .ldc2_w n => nx && match re with
    | .lconst k => decide (Int64.ofNat (k : Nat) = Int64.ofNat n) && decide (len = 1)
    | .ldc2_w k => gw pl (.constantLong own k (Int64.ofNat n)) && decide (len = 3)
    | _ => false
  | .iload k => nx && match re with
    | .iload j => decide (j = k) && decide (len = 2)
    | .iload_n j => decide ((j : Nat) = k) && decide (len = 1)
    | _ => false
  | .lload k => nx && match re with
    | .lload j => decide (j = k) && decide (len = 2)
    | .lload_n j => decide ((j : Nat) = k) && decide (len = 1)
    | _ => false
  | .aload k => nx && match re with
    | .aload j => decide (j = k) && decide (len = 2)
    | .aload_n j => decide ((j : Nat) = k) && decide (len = 1)
    | _ => false
  | .istore k => nx && match re with
    | .istore j => decide (j = k) && decide (len = 2)
    | .istore_n j => decide ((j : Nat) = k) && decide (len = 1)
    | _ => false
  | .lstore k => nx && match re with
    | .lstore j => decide (j = k) && decide (len = 2)
    | .lstore_n j => decide ((j : Nat) = k) && decide (len = 1)
    | _ => false
  | .astore k => nx && match re with
    | .astore j => decide (j = k) && decide (len = 2)
    | .astore_n j => decide ((j : Nat) = k) && decide (len = 1)
    | _ => false
  | .iinc k n => nx && decide (re = .iinc k n) && decide (len = 3)
  | .getfield e => nx && gfl own e pl re false ini len && decide (gty (e / 64) (e % 64) = .int)
  | .getstatic e => nx && gfl own e pl re false ini len && gisr (gty (e / 64) (e % 64))
  | .dload e => nx && gfl own e pl re false ini len && decide (gty (e / 64) (e % 64) = .long)
  | .putfield e => nx && gfl own e pl re true ini len && decide (gty (e / 64) (e % 64) = .int)
  | .putstatic e => nx && gfl own e pl re true ini len && gisr (gty (e / 64) (e % 64))
  | .dstore e => nx && gfl own e pl re true ini len && decide (gty (e / 64) (e % 64) = .long)
  | .new e => nx && decide (e / 64 < 9) && decide (e % 64 = gnf (e / 64)) && decide (len = 3) && match re with
    | .new k => gw pl (.classLink own k (gRX (e / 64)))
    | _ => false
  | .newarray t => nx && decide (re = .newarray t) && decide (len = 2) && decide (t = .int ∨ t = .boolean)
  | .anewarray _ => nx && decide (len = 3) && match re with
    | .anewarray k => gw pl (.classLink own k RX4)
    | _ => false
  | .monitorexit => nx && decide (len = 3) && match re with
    | .invokespecial k => gw pl (.methodLink own k objectInit)
    | _ => false
  | .ireturn => decide (re = .ireturn) && decide (len = 1) && decide (ret = some .int)
  | .freturn => decide (re = .ireturn) && decide (len = 1) && decide (ret = some .boolean)
  | .lreturn => decide (re = .lreturn) && decide (len = 1) && decide (ret = some .long)
  | .return_ => decide (re = .return_) && decide (len = 1) && decide (ret = none)
  | .if_icmp c t => nx && match re with
    | .if_icmp c2 o => decide (c2 = c) && decide (len = 3) && decide (gpc q t = some ((pc : Int) + o))
    | _ => false
  | .ifCond c t => nx && match re with
    | .ifCond c2 o => decide (c2 = c) && decide (len = 3) && decide (gpc q t = some ((pc : Int) + o))
    | _ => false
  | .goto t => match re with
    | .goto o => decide (len = 3) && decide (gpc q t = some ((pc : Int) + o))
    | _ => false
  | .tableswitch df lo hi os => match re with
    | .tableswitch df2 lo2 hi2 os2 => decide (lo2 = lo) && decide (hi2 = hi) && decide (gpc q df = some ((pc : Int) + df2)) && decide ((hi - lo + 1).toNat = os.size) && decide (os2.size = os.size) && (List.range os.size).all (fun j => decide (gpc q (os.getD j df) = some ((pc : Int) + os2.getD j df2)))
    | _ => false
  | .lookupswitch df ps => match re with
    | .lookupswitch df2 ps2 => decide (gpc q df = some ((pc : Int) + df2)) && (ps2.toList.zip (ps2.toList.drop 1)).all (fun (a, next) => a.1 < next.1) && decide (ps.toList.map (fun z => (z.1, gpc q z.2)) = ps2.toList.map (fun z => (z.1, some ((pc : Int) + z.2))))
    | _ => false
  | .invokestatic y => nx && decide (len = 3) && decide (0 < y) && decide (y < nM) && (N y).2.2.2.2.1 && match re with
    | .invokestatic k => gml own k (N y).1 pl
    | _ => false
  | .invokevirtual y => nx && decide (len = 3) && decide (0 < y) && decide (y < nM) && !(N y).2.2.2.2.1 && decide (¬ (N y).1.name = "<init>") && match re with
    | .invokevirtual k => gw pl (.methodLink own k (N y).1)
    | _ => false
  | .invokespecial y => nx && decide (len = 3) && decide (0 < y) && decide (y < nM) && !(N y).2.2.2.2.1 && decide ((N y).1.name = "<init>") && match re with
    | .invokespecial k => gml own k (N y).1 pl
    | _ => false
  | .iadd => nx && decide (re = .iadd) && decide (len = 1)
  | .isub => nx && decide (re = .isub) && decide (len = 1)
  | .imul => nx && decide (re = .imul) && decide (len = 1)
  | .iand => nx && decide (re = .iand) && decide (len = 1)
  | .ior => nx && decide (re = .ior) && decide (len = 1)
  | .ixor => nx && decide (re = .ixor) && decide (len = 1)
  | .ishl => nx && decide (re = .ishl) && decide (len = 1)
  | .ishr => nx && decide (re = .ishr) && decide (len = 1)
  | .iushr => nx && decide (re = .iushr) && decide (len = 1)
  | .idiv => nx && decide (re = .idiv) && decide (len = 1)
  | .irem => nx && decide (re = .irem) && decide (len = 1)
  | .ineg => nx && decide (re = .ineg) && decide (len = 1)
  | .ladd => nx && decide (re = .ladd) && decide (len = 1)
  | .lmul => nx && decide (re = .lmul) && decide (len = 1)
  | .land => nx && decide (re = .land) && decide (len = 1)
  | .lor => nx && decide (re = .lor) && decide (len = 1)
  | .lrem => nx && decide (re = .lrem) && decide (len = 1)
  | .lushr => nx && decide (re = .lushr) && decide (len = 1)
  | .lshl => nx && decide (re = .lshl) && decide (len = 1)
  | .lcmp => nx && decide (re = .lcmp) && decide (len = 1)
  | .i2l => nx && decide (re = .i2l) && decide (len = 1)
  | .l2i => nx && decide (re = .l2i) && decide (len = 1)
  | .dup => nx && decide (re = .dup) && decide (len = 1)
  | .dup2 => nx && decide (re = .dup2) && decide (len = 1)
  | .pop => nx && decide (re = .pop) && decide (len = 1)
  | .iaload => nx && decide (re = .iaload) && decide (len = 1)
  | .iastore => nx && decide (re = .iastore) && decide (len = 1)
  | .baload => nx && decide (re = .baload) && decide (len = 1)
  | .bastore => nx && decide (re = .bastore) && decide (len = 1)
  | .aaload => nx && decide (re = .aaload) && decide (len = 1)
  | .aastore => nx && decide (re = .aastore) && decide (len = 1)
  | .arraylength => nx && decide (re = .arraylength) && decide (len = 1)
  | _ => false
/-- of an instruction: it is as it is decoded, and as it stands for -/
def gitem (N : gN) (nM : Nat) (C : List Instr) (y i : Nat) : Bool := match C[i]?, (N y).2.2.2.1[i]? with
  | some ins, some z => decide (decode (N y).2.1 z.1 = .ok (z.2.2.1, z.2.1)) && gcor N nM (N y).1.cls (N y).2.2.1 (decide ((N y).1.name = "<init>")) (N y).2.2.2.1 i ins z.1 z.2.1 z.2.2.1 z.2.2.2
  | _, _ => false
/-- some instructions -/
def gpiece (N : gN) (nM : Nat) (C : List Instr) (y lo n : Nat) : Bool := (List.range n).all (fun i => gitem N nM C y (lo + i))
theorem gpiece_add {N : gN} {nM : Nat} {C : List Instr} {y lo n m : Nat} (h1 : gpiece N nM C y lo n = true) (h2 : gpiece N nM C y (lo + n) m = true) : gpiece N nM C y lo (n + m) = true := by
  simp only [gpiece, List.all_eq_true, List.mem_range] at *
  intro i hi
  by_cases h : i < n
  · exact h1 i h
  · have := h2 (i - n) (by omega)
    rwa [show lo + n + (i - n) = lo + i by omega] at this
/-- of a whole code -/
def gchk (N : gN) (nM : Nat) (C : List Instr) (y : Nat) : Bool := decide (gpc (N y).2.2.2.1 0 = some 0) && gpiece N nM C y 0 C.length
/-- of a method that is called: its words -/
def ghd (M : gT) (N : gN) (y : Nat) : Bool :=
  gw (N y).2.2.2.2.2.1 (.code (N y).1 (N y).2.1 (M y).2.1 (N y).2.2.1) && gw (N y).2.2.2.2.2.2.1 (.initialized (N y).1.cls) &&
  (if (N y).2.2.2.2.1 then gw (N y).2.2.2.2.2.2.2.1 (.static (N y).1) && decide ((parseMethodDescriptor (N y).1.desc).map (fun d => d.parameters.length) = some (M y).2.2.1)
   else gw (N y).2.2.2.2.2.2.2.1 (.instanceMethod (N y).1) && decide ((parseMethodDescriptor (N y).1.desc).map (fun d => d.parameters.length + 1) = some (M y).2.2.1) && decide ((M y).2.2.2.1 < 9) && decide (gRX (M y).2.2.2.1 = (N y).1.cls) &&
     (if (N y).1.name = "<init>" then decide ((N y).2.2.1 = none) else gw (N y).2.2.2.2.2.2.2.2 (.selects (N y).1.cls (N y).1 (N y).1))) &&
  decide ((N y).1.cls ≠ "java/lang/invoke/MethodHandle" ∧ (N y).1.cls ≠ "java/lang/invoke/VarHandle") && plainName (N y).1.cls && decide ((M y).2.1 ≤ 40)
end
section
/-! THE ABSTRACT MACHINE IS SOUND FOR THE MACHINE -/
abbrev gtys (G : gG3) : List (ClassId × FieldType) := [(G.1, .int), (G.2.1, .boolean), (G.2.2, .object RX4)]
def gA (b : Nat) : Nat → Prop := fun q => b ≤ q
/-- what isn't a lasting word: links between nest mates, arrays over Moment -/
def gEx (s : State) : Prop := (∀ z ∈ gnest, va_Nw (.methodLinkNest z.1 z.2.1 z.2.2.1 z.2.2.2) s) ∧ va_AO RX4 s
theorem gEx.warm {s U : State} (hW : s.WarmedH U.vm) (h : gEx s) : gEx U := ⟨fun z hz => va_Nw.warmM hW (h.1 z hz), va_AO.moved hW.alike h.2⟩
theorem gRel.moved {b0 b : Nat} {D : va_G} {G : gG3} {L : Nat} {σ : gS} {u U : State} {H : Heap} (hvm : u.vm.Alike U.vm) (h : gRel b0 b D G L σ u H) : gRel b0 b D G L σ U H := ⟨h.1, h.2.1, h.2.2.1, h.2.2.2.moved hvm⟩
def gQc (b0 b : Nat) (D : va_G) (G : gG3) (L : Nat) (Q : gP) : Array Value → State → Outcome → State → Prop := fun _ st o t =>
  ∃ r σ', Q r σ' ∧ o = .returned (r.map (gv b0 b)) ∧ gRel b0 b D G L σ' t t.heap ∧ va_F (gA b) st t
/-- the words that hold of every class of the world -/
def gCl : Prop := ∀ x, x < 9 → (∀ w ∈ u_ws (gRX x) (gTT x) (gnf x), w ∈ gGw) ∧ vwCl[x]? = some (gRX x, gTT x, gnf x) ∧ (∀ k, k < gnf x → parseFieldDescriptor (gTT x k).2.2.1 = some (gty x k)) ∧ (∀ a, a < gnf x → ∀ b, b < gnf x → a ≠ b → (gTT x a).2.1 ≠ (gTT x b).2.1) ∧ Cond.instantiable (gRX x) (gnf x) ∈ gGw ∧ Cond.initialized (gRX x) ∈ gGw ∧ ∀ k, k < gnf x → gty x k = .int ∨ gty x k = .long ∨ gisr (gty x k) = true
/-- the words that any method may want -/
def gAny : Prop := Cond.instanceMethod objectInit ∈ gGw ∧ Cond.code objectInit ⟨#[0xb1]⟩ 1 none ∈ gGw ∧ Cond.arrayClass .int ∈ gGw ∧ Cond.arrayClass .boolean ∈ gGw
/-- the tables' check -/
def gOK (M : gT) (N : gN) (nM : Nat) : Prop := (∀ y, y < nM → gchk N nM (M y).1 y = true) ∧ (∀ y, 0 < y → y < nM → ghd M N y = true) ∧ gCl ∧ gAny
section GSN
variable (M : gT) (N : gN) (nM : Nat)
/-- a walk of method y stands in the machine -/
def gCx (y : Nat) (p : Program) (R : Room) (s : State) (m : MethodId) (args : Array Value) (meth : Method) (c : Code) (b0 b : Nat) (D : va_G) (G : gG3) (d : Nat) : Prop :=
  p.tables.exec = Jvm.exec ∧ c.code = (N y).2.1 ∧ c.maxLocals = (M y).2.1 ∧ s.vm.findClass (N y).1.cls = some m.cls ∧ (∀ w ∈ gGw, w.before args s = true) ∧ gEx s ∧ meth.sig.returnType = (N y).2.2.1 ∧ meth.locks = false ∧ ((N y).1.name = "<init>" → meth.name = "<init>") ∧
  va_K D vwCl (gtys G) s ∧ b0 < b ∧ b ≤ s.heap.size ∧ d ≤ R.frames ∧ 64 * d ≤ R.locals
def gAt (R : Room) (s : State) (b0 b : Nat) (D : va_G) (G : gG3) (L : Nat) (H : Heap) (locs : List Loc) (cells slots nL mc ms : Nat) (ls : List Value) (lsR : Array Slot) (σ : gS) : Prop :=
  gRel b0 b D G L σ s H ∧ va_S (gA b) s.heap H locs ∧ gLV b0 b nL ls lsR ∧ cells + mc ≤ R.cells ∧ slots + ms ≤ R.slots
def gSnd : gK := fun d mc ms C i ls st σ Q =>
  ∀ (y : Nat) (l : Launch) (p : Program) (e : Env) (R : Room) (s : State) (m : MethodId) (args : Array Value) (below : List Frame) (meth : Method) (c : Code) (b0 b : Nat) (D : va_G) (G : gG3) (L : Nat) (H : Heap) (locs : List Loc) (cells slots : Nat) (lsR : Array Slot) (pc : Nat),
    y < nM → C = (M y).1 → gCx M N y p R s m args meth c b0 b D G d → gAt R s b0 b D G L H locs cells slots (M y).2.1 mc ms ls lsR σ → gpc (N y).2.2.2.1 (i : Int) = some (pc : Int) →
    W p l e R s m args below meth c H locs cells slots (MQ below (gQc b0 b D G L Q) args s R.cells R.slots (gA b)) (F0 m pc lsR (st.map (gv b0 b)))
end GSN
theorem gv_i (b0 b : Nat) (x : Int32) : gv b0 b (.int x) = .int x := rfl
theorem gv_l (b0 b : Nat) (x : Int64) : gv b0 b (.long x) = .long x := rfl
section GST
variable {M : gT} {N : gN} {nM y : Nat} {l : Launch} {p : Program} {e : Env} {R : Room} {s : State} {m : MethodId} {args : Array Value} {below : List Frame} {meth : Method} {c : Code} {b0 b : Nat} {D : va_G} {G : gG3} {L : Nat} {H : Heap} {locs : List Loc} {cells slots : Nat} {lsR : Array Slot} {pc : Nat}
variable {d mc ms i : Nat} {ls st : List Value} {σ : gS} {Q : gP}
/-- what the check gives at an instruction -/
theorem gOK.at (hO : gOK M N nM) (hy : y < nM) {ins : Instr} (hc : (M y).1[i]? = some ins) (hpc : gpc (N y).2.2.2.1 (i : Int) = some (pc : Int)) :
    ∃ len re pl, decode (N y).2.1 pc = .ok (re, len) ∧ gcor N nM (N y).1.cls (N y).2.2.1 (decide ((N y).1.name = "<init>")) (N y).2.2.2.1 i ins pc len re pl = true := by
  have h := hO.1 y hy
  simp only [gchk, gpiece, Bool.and_eq_true, List.all_eq_true, List.mem_range, decide_eq_true_eq] at h
  have hi : i < (M y).1.length := (List.getElem?_eq_some_iff.mp hc).1
  have h2 := h.2 i hi
  rw [Nat.zero_add, gitem, hc] at h2
  simp only [gpc, Int.toNat_natCast] at hpc
  cases hz : (N y).2.2.2.1[i]? with
  | none => rw [hz] at hpc; cases hpc
  | some z =>
    rw [hz] at h2 hpc
    simp only [Option.map_some, Option.some.injEq, Int.natCast_inj] at hpc
    simp only [Bool.and_eq_true, decide_eq_true_eq] at h2
    subst hpc
    exact ⟨z.2.1, z.2.2.1, z.2.2.2, h2.1, h2.2⟩
theorem gpc_nx {q : gQ} {len : Nat} (h : gpc q ((i + 1 : Nat) : Int) = some ((pc : Int) + (len : Int))) : gpc q ((i + 1 : Nat) : Int) = some ((pc + len : Nat) : Int) := by rw [h]; rfl
theorem gpc_nat {q : gQ} {t o : Int} (h : gpc q t = some o) : ∃ k : Nat, o = (k : Int) ∧ gpc q ((t.toNat : Nat) : Int) = some (k : Int) := by
  have h' := h
  simp only [gpc] at h'
  cases hz : q[t.toNat]? with
  | none => rw [hz] at h'; cases h'
  | some z =>
    rw [hz] at h'
    simp only [Option.map_some, Option.some.injEq] at h'
    refine ⟨z.1, h'.symm, ?_⟩
    simp only [gpc, Int.toNat_natCast, hz, Option.map_some]
end GST
end
section
/-! EACH INSTRUCTION: the abstract step is the machine's (rows laid by wip/whole/gen/steps.py) -/
def gGoal (M : gT) (N : gN) (nM : Nat) (ins : Instr) : Prop :=
  ∀ (y : Nat) (l : Launch) (p : Program) (e : Env) (R : Room) (s : State) (m : MethodId) (args : Array Value) (below : List Frame) (meth : Method) (c : Code) (b0 b : Nat) (D : va_G) (G : gG3) (L : Nat) (H : Heap) (locs : List Loc) (cells slots : Nat) (lsR : Array Slot) (pc : Nat) (d mc ms i : Nat) (ls st : List Value) (σ : gS) (Q : gP),
    gstq M (gSnd M N nM) ins d mc ms (M y).1 i ls st σ Q → y < nM → (M y).1[i]? = some ins → gCx M N y p R s m args meth c b0 b D G d → gAt R s b0 b D G L H locs cells slots (M y).2.1 mc ms ls lsR σ → gpc (N y).2.2.2.1 (i : Int) = some (pc : Int) →
    W p l e R s m args below meth c H locs cells slots (MQ below (gQc b0 b D G L Q) args s R.cells R.slots (gA b)) (F0 m pc lsR (st.map (gv b0 b)))
theorem g2le {a : Nat} (h0 : a ≠ 0) (h1 : a ≠ 1) : 2 ≤ a := by omega
theorem gnle {L n : Nat} {σ : gS} {a k : Nat} (h : gInv L σ) (hk : k = 1 ∨ k = 2) (hsh : gsh σ a = 100 + k + 3 * n) : a ≠ 1 := fun q => by
  have := h.2
  rw [q] at hsh
  omega
/-- the script stays -/
theorem gX_kept {b0 b L : Nat} {xs : Nat → Int32} {s : State} {H H1 : Heap} {locs locs1 : List Loc} (hb0 : b0 < b) (hbs : b ≤ s.heap.size) (hS : va_S (gA b) s.heap H locs) (hS1 : va_S (gA b) s.heap H1 locs1) (h : va_X b0 L xs s H) : va_X b0 L xs s H1 := by
  have n : ¬ gA b b0 := Nat.not_le.mpr hb0
  exact h.kept ((hS1.2.1 b0 (by omega) n).trans (hS.2.1 b0 (by omega) n).symm)
section GPU
variable {p : Program} {l : Launch} {e : Env} {R : Room} {s : State} {m : MethodId} {args : Array Value} {below : List Frame} {meth : Method} {c : Code} {H : Heap} {locs : List Loc} {cells slots : Nat} {Q : State → Prop} {cc : ByteArray} {D : va_G} {cl : List vw_C} {tys : List (ClassId × FieldType)} {ws : va_W} {A : Nat → Prop} {H0 : Heap} {a pc : Nat} {ls : Array Slot} {rest : List Value}
/-- putfield, final or not; the heap's size stays -/
theorem gput (hexec : p.tables.exec = Jvm.exec) (hb : c.code = cc) {own C : String} {T : u_T} {N ci index : Nat} {Ts : List Cond} (hts : ∀ w ∈ Ts, w.before args s = true) (hin : ∀ w ∈ u_ws C T N, w ∈ Ts) (ty0 : Nat → FieldType) (hty : ∀ k, k < N → parseFieldDescriptor (T k).2.2.1 = some (ty0 k)) (hnm : ∀ a, a < N → ∀ b, b < N → a ≠ b → (T a).2.1 ≠ (T b).2.1) (hown : s.vm.findClass own = some m.cls) (hK : va_K D cl tys s) (hP : va_P D cl ws H) (hD : va_D A ws) (hS0 : va_S A H0 H locs) (q0 : Nat) {fs : List Value} (he : ws[q0]? = some (a, .inr (ci, fs))) (hc : cl[ci]? = some (C, T, N)) (k : Nat) (hk : k < N) (hlink : (Cond.fieldLink own index (T k).1 (T k).2.1 (T k).2.2.1).before args s = true) (hfin : (T k).2.2.2 = false ∨ (meth.name = "<init>" ∧ (T k).1 = own)) {ty : FieldType} {v : Value} (hd : parseFieldDescriptor (T k).2.2.1 = some ty) (hn : narrow ty v = v) (hfit : fits ty v = true) (hl : k < fs.length)
    (hdg : decode cc pc = .ok (.putfield index, 3)) (kk : ∀ (H1 : Heap) (locs1 : List Loc), va_P D cl (ws.set q0 (a, .inr (ci, fs.set k v))) H1 → va_S A H0 H1 locs1 → H1.size = H.size → W p l e R s m args below meth c H1 locs1 cells slots Q (F0 m (pc + 3) ls rest)) : W p l e R s m args below meth c H locs cells slots Q (F0 m pc ls (v :: .ref a :: rest)) := by
  have hap := va_apart (own := own) hts hin ty0 hty hnm hK hc
  obtain ⟨r, h1, cell, q1, q2, q3, q4⟩ := hP q0 _ he
  cases Option.some.inj (h1.symm.trans hc)
  obtain ⟨hS, hfc, kC, hkC, hkind⟩ := hK.1 ci _ hc
  obtain ⟨cf, kf, fi, f, hi, hsl⟩ := hS k hk
  have hlay := hts _ (hin _ (u_in_lay hk))
  unfold u_lay at hlay
  have hst := (u_facts hfc hkC (u_lays hts hin hk) hi).1
  have last : ∀ H' : Heap, H'[a]? = some (cell.setSlot (D.2 ci k) v) → H'.size = H.size → (∀ q : Nat, q ≠ a → H'[q]? = H[q]?) → W p l e R s m args below meth c H' (locs ++ [⟨a, D.2 ci k⟩]) cells slots Q (F0 m (pc + 3) ls rest) := fun H' e1 e2 e3 =>
    kk H' _ (hP.set hD he ⟨_, hc, t_OB.to (V := updV (vp_V fs) k v) ⟨_, e1, q2, q3, t_set q4 hap hk v⟩ (fun j _ => vp_updV_set hl v j)⟩ e3) (hS0.put e2 e3 (hD.2 q0 _ he)) e2
  by_cases hf2 : (T k).2.2.2 = false
  · rw [if_neg (by rw [hf2]; decide)] at hlay
    have h6 := u_store hfc hkC hkind hlay hi hd hn hfit
    refine W.putK hexec hb (f := f) ⟨hown, hlink, ⟨_, _, _, hi⟩, hst⟩ (by rw [q2]; exact h6) q1 q3 (by rw [hsl]; exact k2_hasslot (q4 k hk)) rfl rfl hdg fun H' e1 e2 e3 => ?_
    rw [hsl] at e1 ⊢
    exact last H' e1 e2 e3
  · obtain ⟨hin2, hdecl⟩ := hfin.resolve_left hf2
    rw [if_pos (by simpa using hf2)] at hlay
    have hcf : m.cls = cf := by
      obtain ⟨_, _, c', _, _, _, -, -, hf', -, -, -, hown2, -⟩ := Cond.laysFinal_spec hlay
      have e1 : c' = cf := by have := hi.symm.trans hf'; simp at this; exact this.1.symm
      rw [hdecl] at hown2
      rw [← e1]; exact Option.some.inj (hown.symm.trans hown2)
    have h6 := u_fits hfc hkC hkind (Or.inr hlay) hi hd hn hfit
    refine W.putFinK hexec hb hown hlink hi hst hcf hin2 (by rw [q2]; exact h6) q1 q3 (by rw [hsl]; exact k2_hasslot (q4 k hk)) rfl rfl hdg fun H' e1 e2 e3 => ?_
    rw [hsl] at e1 ⊢
    exact last H' e1 e2 e3
/-- stores into arrays; the heap's size stays -/
theorem giast (hexec : p.tables.exec = Jvm.exec) (hb : c.code = cc) (hK : va_K D cl tys s) (hP : va_P D cl ws H) (hD : va_D A ws) (hS : va_S A H0 H locs) (q0 t0 : Nat) {cA : ClassId} {n : Nat} {f : Nat → Int32} (ha : ws[q0]? = some (a, .inl (cA, n, .inl f))) (ht : tys[t0]? = some (cA, .int)) {i : Int32} {x : Int32} (hin : vp_in i n) (hdg : decode cc pc = .ok (.iastore, 1))
    (kk : ∀ (H1 : Heap) (locs1 : List Loc), va_P D cl (ws.set q0 (a, .inl (cA, n, .inl (upd f i.toNatClampNeg x)))) H1 → va_S A H0 H1 locs1 → H1.size = H.size → W p l e R s m args below meth c H1 locs1 cells slots Q (F0 m (pc + 1) ls rest)) : W p l e R s m args below meth c H locs cells slots Q (F0 m pc ls (.int x :: .int i :: .ref a :: rest)) := by
  refine W.iast hexec hb (hP q0 _ ha) ((hK.2 t0 _ ht).1 n (fun j => .int (f j))) (fun q => by cases q) (by show ¬ (i < 0 ∨ (arrV _ _ _).slots.size ≤ _); rw [arrV_size]; exact hin) rfl rfl hdg fun H1 e z oq => ?_
  refine kk H1 _ (hP.set hD ha ?_ oq) (hS.put z oq (hD.2 q0 _ ha)) z
  show H1[a]? = some (vp_cell _ _)
  rw [e, vp_cell_i, vp_cell_i, arrV_store]
  congr 2
  funext q
  by_cases hq : q = i.toNatClampNeg <;> simp [updV, upd, hq]
theorem gzast (hexec : p.tables.exec = Jvm.exec) (hb : c.code = cc) (hK : va_K D cl tys s) (hP : va_P D cl ws H) (hD : va_D A ws) (hS : va_S A H0 H locs) (q0 t0 : Nat) {cA : ClassId} {n : Nat} {f : Nat → Int32} (ha : ws[q0]? = some (a, .inl (cA, n, .inl f))) (ht : tys[t0]? = some (cA, .boolean)) {i : Int32} {x : Int32} (hx01 : x = 0 ∨ x = 1) (hin : vp_in i n) (hdg : decode cc pc = .ok (.bastore, 1))
    (kk : ∀ (H1 : Heap) (locs1 : List Loc), va_P D cl (ws.set q0 (a, .inl (cA, n, .inl (upd f i.toNatClampNeg x)))) H1 → va_S A H0 H1 locs1 → H1.size = H.size → W p l e R s m args below meth c H1 locs1 cells slots Q (F0 m (pc + 1) ls rest)) : W p l e R s m args below meth c H locs cells slots Q (F0 m pc ls (.int x :: .int i :: .ref a :: rest)) := by
  refine W.zast hexec hb (hP q0 _ ha) ((hK.2 t0 _ ht).1 n (fun j => .int (f j))) (fun q => by cases q) (by show ¬ (i < 0 ∨ (arrV _ _ _).slots.size ≤ _); rw [arrV_size]; exact hin) rfl rfl hdg fun H1 e z oq => ?_
  refine kk H1 _ (hP.set hD ha ?_ oq) (hS.put z oq (hD.2 q0 _ ha)) z
  show H1[a]? = some (vp_cell _ _)
  have hnx : narrow .boolean (.int x) = .int x := by rcases hx01 with rfl | rfl <;> decide +kernel
  rw [e, vp_cell_i, vp_cell_i, hnx, arrV_store]
  congr 2
  funext q
  by_cases hq : q = i.toNatClampNeg <;> simp [updV, upd, hq]
theorem gaast (hexec : p.tables.exec = Jvm.exec) (hb : c.code = cc) (hK : va_K D cl tys s) (hP : va_P D cl ws H) (hD : va_D A ws) (hS : va_S A H0 H locs) (q0 t0 qk ci : Nat) {cA : ClassId} {r : vw_C} {n v : Nat} {vs : List Value} {f : Nat → Option Nat} (ha : ws[q0]? = some (a, .inl (cA, n, .inr (.inr (.inr (.inr f)))))) (ht : tys[t0]? = some (cA, .object r.1)) (hv : ws[qk]? = some (v, .inr (ci, vs))) (hc : cl[ci]? = some r) {i : Int32} (hin : vp_in i n) (hdg : decode cc pc = .ok (.aastore, 1))
    (kk : ∀ (H1 : Heap) (locs1 : List Loc), va_P D cl (ws.set q0 (a, .inl (cA, n, .inr (.inr (.inr (.inr (va_up f i.toNatClampNeg (some v)))))))) H1 → va_S A H0 H1 locs1 → H1.size = H.size → W p l e R s m args below meth c H1 locs1 cells slots Q (F0 m (pc + 1) ls rest)) : W p l e R s m args below meth c H locs cells slots Q (F0 m pc ls (.ref v :: .int i :: .ref a :: rest)) := by
  have hlt : i.toNatClampNeg < n := Nat.not_le.mp fun q => hin (Or.inr q)
  have h0 : ¬ i < 0 := fun q => hin (Or.inl q)
  obtain ⟨r', hr', cellV, g1, g2, g3, -⟩ := hP qk _ hv
  have hcls := (hK.1 ci r hc).2
  obtain ⟨kA, comp, k1, k2, k3, -⟩ := (hK.2 t0 _ ht).2
  have hcomp : comp = D.1 ci := Option.some.inj (k3.symm.trans hcls.1)
  subst hcomp
  obtain ⟨kC, hkC, -⟩ := hcls.2
  refine W.aast hexec hb (hP q0 _ ha) (fun q h => by cases h) (fun h => by cases h) k1 k2 rfl hkC ⟨h0, by show _ < (arrV _ _ _).slots.size; rw [arrV_size]; exact hlt⟩ g1 (fun q h => by rw [g3] at h; cases h) (by rw [g2]; exact hkC) (by rw [g2]; exact va_assign hcls) rfl rfl hdg fun H1 e z oq => ?_
  refine kk H1 _ (hP.set hD ha ?_ oq) (hS.put z oq (hD.2 q0 _ ha)) z
  show H1[a]? = some (vp_cell _ _)
  rw [e, vp_cell_q, vp_cell_q, arrV_store]
  congr 2
  funext q
  by_cases hq : q = i.toNatClampNeg <;> simp [updV, va_up, va_rf, hq]
end GPU
set_option maxHeartbeats 1000000 in
theorem g_iadd {M : gT} {N : gN} {nM : Nat} (hO : gOK M N nM) : gGoal M N nM (.iadd) := by
  intro y l p e R s m args below meth c b0 b D G L H locs cells slots lsR pc d mc ms i ls st σ Q hq hy hc hC hA hpc
  obtain ⟨len, re, pl, hdg, hcor⟩ := hO.at hy hc hpc
  have hC0 := hC
  have hA0 := hA
  obtain ⟨hx, hb, hml, hown, hts, hEx, hr, hlk, hin, hK, hb0, hbs, hdf, hdl⟩ := hC
  obtain ⟨hRel, hS, hLV, hcl, hsl⟩ := hA
  simp only [gcor, Bool.and_eq_true, Bool.or_eq_true, decide_eq_true_eq, Bool.not_eq_true'] at hcor
  simp only [gstq, gi2, gl2] at hq
  obtain ⟨x, y1, r, rfl, hk⟩ := hq
  obtain ⟨⟨hnx, rfl⟩, rfl⟩ := hcor
  exact lv_iadd hx hb hdg (hk y l p e R s m args below meth c b0 b D G L H locs cells slots lsR (pc + 1) hy rfl hC0 hA0 (gpc_nx hnx))
set_option maxHeartbeats 1000000 in
theorem g_isub {M : gT} {N : gN} {nM : Nat} (hO : gOK M N nM) : gGoal M N nM (.isub) := by
  intro y l p e R s m args below meth c b0 b D G L H locs cells slots lsR pc d mc ms i ls st σ Q hq hy hc hC hA hpc
  obtain ⟨len, re, pl, hdg, hcor⟩ := hO.at hy hc hpc
  have hC0 := hC
  have hA0 := hA
  obtain ⟨hx, hb, hml, hown, hts, hEx, hr, hlk, hin, hK, hb0, hbs, hdf, hdl⟩ := hC
  obtain ⟨hRel, hS, hLV, hcl, hsl⟩ := hA
  simp only [gcor, Bool.and_eq_true, Bool.or_eq_true, decide_eq_true_eq, Bool.not_eq_true'] at hcor
  simp only [gstq, gi2, gl2] at hq
  obtain ⟨x, y1, r, rfl, hk⟩ := hq
  obtain ⟨⟨hnx, rfl⟩, rfl⟩ := hcor
  exact lv_isub hx hb hdg (hk y l p e R s m args below meth c b0 b D G L H locs cells slots lsR (pc + 1) hy rfl hC0 hA0 (gpc_nx hnx))
set_option maxHeartbeats 1000000 in
theorem g_imul {M : gT} {N : gN} {nM : Nat} (hO : gOK M N nM) : gGoal M N nM (.imul) := by
  intro y l p e R s m args below meth c b0 b D G L H locs cells slots lsR pc d mc ms i ls st σ Q hq hy hc hC hA hpc
  obtain ⟨len, re, pl, hdg, hcor⟩ := hO.at hy hc hpc
  have hC0 := hC
  have hA0 := hA
  obtain ⟨hx, hb, hml, hown, hts, hEx, hr, hlk, hin, hK, hb0, hbs, hdf, hdl⟩ := hC
  obtain ⟨hRel, hS, hLV, hcl, hsl⟩ := hA
  simp only [gcor, Bool.and_eq_true, Bool.or_eq_true, decide_eq_true_eq, Bool.not_eq_true'] at hcor
  simp only [gstq, gi2, gl2] at hq
  obtain ⟨x, y1, r, rfl, hk⟩ := hq
  obtain ⟨⟨hnx, rfl⟩, rfl⟩ := hcor
  exact lv_imul hx hb hdg (hk y l p e R s m args below meth c b0 b D G L H locs cells slots lsR (pc + 1) hy rfl hC0 hA0 (gpc_nx hnx))
set_option maxHeartbeats 1000000 in
theorem g_iand {M : gT} {N : gN} {nM : Nat} (hO : gOK M N nM) : gGoal M N nM (.iand) := by
  intro y l p e R s m args below meth c b0 b D G L H locs cells slots lsR pc d mc ms i ls st σ Q hq hy hc hC hA hpc
  obtain ⟨len, re, pl, hdg, hcor⟩ := hO.at hy hc hpc
  have hC0 := hC
  have hA0 := hA
  obtain ⟨hx, hb, hml, hown, hts, hEx, hr, hlk, hin, hK, hb0, hbs, hdf, hdl⟩ := hC
  obtain ⟨hRel, hS, hLV, hcl, hsl⟩ := hA
  simp only [gcor, Bool.and_eq_true, Bool.or_eq_true, decide_eq_true_eq, Bool.not_eq_true'] at hcor
  simp only [gstq, gi2, gl2] at hq
  obtain ⟨x, y1, r, rfl, hk⟩ := hq
  obtain ⟨⟨hnx, rfl⟩, rfl⟩ := hcor
  exact lv_iand hx hb hdg (hk y l p e R s m args below meth c b0 b D G L H locs cells slots lsR (pc + 1) hy rfl hC0 hA0 (gpc_nx hnx))
set_option maxHeartbeats 1000000 in
theorem g_ior {M : gT} {N : gN} {nM : Nat} (hO : gOK M N nM) : gGoal M N nM (.ior) := by
  intro y l p e R s m args below meth c b0 b D G L H locs cells slots lsR pc d mc ms i ls st σ Q hq hy hc hC hA hpc
  obtain ⟨len, re, pl, hdg, hcor⟩ := hO.at hy hc hpc
  have hC0 := hC
  have hA0 := hA
  obtain ⟨hx, hb, hml, hown, hts, hEx, hr, hlk, hin, hK, hb0, hbs, hdf, hdl⟩ := hC
  obtain ⟨hRel, hS, hLV, hcl, hsl⟩ := hA
  simp only [gcor, Bool.and_eq_true, Bool.or_eq_true, decide_eq_true_eq, Bool.not_eq_true'] at hcor
  simp only [gstq, gi2, gl2] at hq
  obtain ⟨x, y1, r, rfl, hk⟩ := hq
  obtain ⟨⟨hnx, rfl⟩, rfl⟩ := hcor
  exact lv_ior hx hb hdg (hk y l p e R s m args below meth c b0 b D G L H locs cells slots lsR (pc + 1) hy rfl hC0 hA0 (gpc_nx hnx))
set_option maxHeartbeats 1000000 in
theorem g_ixor {M : gT} {N : gN} {nM : Nat} (hO : gOK M N nM) : gGoal M N nM (.ixor) := by
  intro y l p e R s m args below meth c b0 b D G L H locs cells slots lsR pc d mc ms i ls st σ Q hq hy hc hC hA hpc
  obtain ⟨len, re, pl, hdg, hcor⟩ := hO.at hy hc hpc
  have hC0 := hC
  have hA0 := hA
  obtain ⟨hx, hb, hml, hown, hts, hEx, hr, hlk, hin, hK, hb0, hbs, hdf, hdl⟩ := hC
  obtain ⟨hRel, hS, hLV, hcl, hsl⟩ := hA
  simp only [gcor, Bool.and_eq_true, Bool.or_eq_true, decide_eq_true_eq, Bool.not_eq_true'] at hcor
  simp only [gstq, gi2, gl2] at hq
  obtain ⟨x, y1, r, rfl, hk⟩ := hq
  obtain ⟨⟨hnx, rfl⟩, rfl⟩ := hcor
  exact lv_ixor hx hb hdg (hk y l p e R s m args below meth c b0 b D G L H locs cells slots lsR (pc + 1) hy rfl hC0 hA0 (gpc_nx hnx))
set_option maxHeartbeats 1000000 in
theorem g_ishl {M : gT} {N : gN} {nM : Nat} (hO : gOK M N nM) : gGoal M N nM (.ishl) := by
  intro y l p e R s m args below meth c b0 b D G L H locs cells slots lsR pc d mc ms i ls st σ Q hq hy hc hC hA hpc
  obtain ⟨len, re, pl, hdg, hcor⟩ := hO.at hy hc hpc
  have hC0 := hC
  have hA0 := hA
  obtain ⟨hx, hb, hml, hown, hts, hEx, hr, hlk, hin, hK, hb0, hbs, hdf, hdl⟩ := hC
  obtain ⟨hRel, hS, hLV, hcl, hsl⟩ := hA
  simp only [gcor, Bool.and_eq_true, Bool.or_eq_true, decide_eq_true_eq, Bool.not_eq_true'] at hcor
  simp only [gstq, gi2, gl2] at hq
  obtain ⟨x, y1, r, rfl, hk⟩ := hq
  obtain ⟨⟨hnx, rfl⟩, rfl⟩ := hcor
  exact lv_ishl hx hb hdg (hk y l p e R s m args below meth c b0 b D G L H locs cells slots lsR (pc + 1) hy rfl hC0 hA0 (gpc_nx hnx))
set_option maxHeartbeats 1000000 in
theorem g_ishr {M : gT} {N : gN} {nM : Nat} (hO : gOK M N nM) : gGoal M N nM (.ishr) := by
  intro y l p e R s m args below meth c b0 b D G L H locs cells slots lsR pc d mc ms i ls st σ Q hq hy hc hC hA hpc
  obtain ⟨len, re, pl, hdg, hcor⟩ := hO.at hy hc hpc
  have hC0 := hC
  have hA0 := hA
  obtain ⟨hx, hb, hml, hown, hts, hEx, hr, hlk, hin, hK, hb0, hbs, hdf, hdl⟩ := hC
  obtain ⟨hRel, hS, hLV, hcl, hsl⟩ := hA
  simp only [gcor, Bool.and_eq_true, Bool.or_eq_true, decide_eq_true_eq, Bool.not_eq_true'] at hcor
  simp only [gstq, gi2, gl2] at hq
  obtain ⟨x, y1, r, rfl, hk⟩ := hq
  obtain ⟨⟨hnx, rfl⟩, rfl⟩ := hcor
  exact lv_ishr hx hb hdg (hk y l p e R s m args below meth c b0 b D G L H locs cells slots lsR (pc + 1) hy rfl hC0 hA0 (gpc_nx hnx))
set_option maxHeartbeats 1000000 in
theorem g_iushr {M : gT} {N : gN} {nM : Nat} (hO : gOK M N nM) : gGoal M N nM (.iushr) := by
  intro y l p e R s m args below meth c b0 b D G L H locs cells slots lsR pc d mc ms i ls st σ Q hq hy hc hC hA hpc
  obtain ⟨len, re, pl, hdg, hcor⟩ := hO.at hy hc hpc
  have hC0 := hC
  have hA0 := hA
  obtain ⟨hx, hb, hml, hown, hts, hEx, hr, hlk, hin, hK, hb0, hbs, hdf, hdl⟩ := hC
  obtain ⟨hRel, hS, hLV, hcl, hsl⟩ := hA
  simp only [gcor, Bool.and_eq_true, Bool.or_eq_true, decide_eq_true_eq, Bool.not_eq_true'] at hcor
  simp only [gstq, gi2, gl2] at hq
  obtain ⟨x, y1, r, rfl, hk⟩ := hq
  obtain ⟨⟨hnx, rfl⟩, rfl⟩ := hcor
  exact lv_iushr hx hb hdg rfl (hk y l p e R s m args below meth c b0 b D G L H locs cells slots lsR (pc + 1) hy rfl hC0 hA0 (gpc_nx hnx))
set_option maxHeartbeats 1000000 in
theorem g_ladd {M : gT} {N : gN} {nM : Nat} (hO : gOK M N nM) : gGoal M N nM (.ladd) := by
  intro y l p e R s m args below meth c b0 b D G L H locs cells slots lsR pc d mc ms i ls st σ Q hq hy hc hC hA hpc
  obtain ⟨len, re, pl, hdg, hcor⟩ := hO.at hy hc hpc
  have hC0 := hC
  have hA0 := hA
  obtain ⟨hx, hb, hml, hown, hts, hEx, hr, hlk, hin, hK, hb0, hbs, hdf, hdl⟩ := hC
  obtain ⟨hRel, hS, hLV, hcl, hsl⟩ := hA
  simp only [gcor, Bool.and_eq_true, Bool.or_eq_true, decide_eq_true_eq, Bool.not_eq_true'] at hcor
  simp only [gstq, gi2, gl2] at hq
  obtain ⟨x, y1, r, rfl, hk⟩ := hq
  obtain ⟨⟨hnx, rfl⟩, rfl⟩ := hcor
  exact lv_ladd hx hb hdg (hk y l p e R s m args below meth c b0 b D G L H locs cells slots lsR (pc + 1) hy rfl hC0 hA0 (gpc_nx hnx))
set_option maxHeartbeats 1000000 in
theorem g_lmul {M : gT} {N : gN} {nM : Nat} (hO : gOK M N nM) : gGoal M N nM (.lmul) := by
  intro y l p e R s m args below meth c b0 b D G L H locs cells slots lsR pc d mc ms i ls st σ Q hq hy hc hC hA hpc
  obtain ⟨len, re, pl, hdg, hcor⟩ := hO.at hy hc hpc
  have hC0 := hC
  have hA0 := hA
  obtain ⟨hx, hb, hml, hown, hts, hEx, hr, hlk, hin, hK, hb0, hbs, hdf, hdl⟩ := hC
  obtain ⟨hRel, hS, hLV, hcl, hsl⟩ := hA
  simp only [gcor, Bool.and_eq_true, Bool.or_eq_true, decide_eq_true_eq, Bool.not_eq_true'] at hcor
  simp only [gstq, gi2, gl2] at hq
  obtain ⟨x, y1, r, rfl, hk⟩ := hq
  obtain ⟨⟨hnx, rfl⟩, rfl⟩ := hcor
  exact lv_lmul hx hb hdg (hk y l p e R s m args below meth c b0 b D G L H locs cells slots lsR (pc + 1) hy rfl hC0 hA0 (gpc_nx hnx))
set_option maxHeartbeats 1000000 in
theorem g_land {M : gT} {N : gN} {nM : Nat} (hO : gOK M N nM) : gGoal M N nM (.land) := by
  intro y l p e R s m args below meth c b0 b D G L H locs cells slots lsR pc d mc ms i ls st σ Q hq hy hc hC hA hpc
  obtain ⟨len, re, pl, hdg, hcor⟩ := hO.at hy hc hpc
  have hC0 := hC
  have hA0 := hA
  obtain ⟨hx, hb, hml, hown, hts, hEx, hr, hlk, hin, hK, hb0, hbs, hdf, hdl⟩ := hC
  obtain ⟨hRel, hS, hLV, hcl, hsl⟩ := hA
  simp only [gcor, Bool.and_eq_true, Bool.or_eq_true, decide_eq_true_eq, Bool.not_eq_true'] at hcor
  simp only [gstq, gi2, gl2] at hq
  obtain ⟨x, y1, r, rfl, hk⟩ := hq
  obtain ⟨⟨hnx, rfl⟩, rfl⟩ := hcor
  exact lv_land hx hb hdg (hk y l p e R s m args below meth c b0 b D G L H locs cells slots lsR (pc + 1) hy rfl hC0 hA0 (gpc_nx hnx))
set_option maxHeartbeats 1000000 in
theorem g_lor {M : gT} {N : gN} {nM : Nat} (hO : gOK M N nM) : gGoal M N nM (.lor) := by
  intro y l p e R s m args below meth c b0 b D G L H locs cells slots lsR pc d mc ms i ls st σ Q hq hy hc hC hA hpc
  obtain ⟨len, re, pl, hdg, hcor⟩ := hO.at hy hc hpc
  have hC0 := hC
  have hA0 := hA
  obtain ⟨hx, hb, hml, hown, hts, hEx, hr, hlk, hin, hK, hb0, hbs, hdf, hdl⟩ := hC
  obtain ⟨hRel, hS, hLV, hcl, hsl⟩ := hA
  simp only [gcor, Bool.and_eq_true, Bool.or_eq_true, decide_eq_true_eq, Bool.not_eq_true'] at hcor
  simp only [gstq, gi2, gl2] at hq
  obtain ⟨x, y1, r, rfl, hk⟩ := hq
  obtain ⟨⟨hnx, rfl⟩, rfl⟩ := hcor
  exact lv_lor hx hb hdg (hk y l p e R s m args below meth c b0 b D G L H locs cells slots lsR (pc + 1) hy rfl hC0 hA0 (gpc_nx hnx))
set_option maxHeartbeats 1000000 in
theorem g_idiv {M : gT} {N : gN} {nM : Nat} (hO : gOK M N nM) : gGoal M N nM (.idiv) := by
  intro y l p e R s m args below meth c b0 b D G L H locs cells slots lsR pc d mc ms i ls st σ Q hq hy hc hC hA hpc
  obtain ⟨len, re, pl, hdg, hcor⟩ := hO.at hy hc hpc
  have hC0 := hC
  have hA0 := hA
  obtain ⟨hx, hb, hml, hown, hts, hEx, hr, hlk, hin, hK, hb0, hbs, hdf, hdl⟩ := hC
  obtain ⟨hRel, hS, hLV, hcl, hsl⟩ := hA
  simp only [gcor, Bool.and_eq_true, Bool.or_eq_true, decide_eq_true_eq, Bool.not_eq_true'] at hcor
  simp only [gstq, gi2, gl2] at hq
  obtain ⟨x, y1, r, rfl, hne, hk⟩ := hq
  obtain ⟨⟨hnx, rfl⟩, rfl⟩ := hcor
  exact lv_idiv hx hb hdg hne (hk y l p e R s m args below meth c b0 b D G L H locs cells slots lsR (pc + 1) hy rfl hC0 hA0 (gpc_nx hnx))
set_option maxHeartbeats 1000000 in
theorem g_irem {M : gT} {N : gN} {nM : Nat} (hO : gOK M N nM) : gGoal M N nM (.irem) := by
  intro y l p e R s m args below meth c b0 b D G L H locs cells slots lsR pc d mc ms i ls st σ Q hq hy hc hC hA hpc
  obtain ⟨len, re, pl, hdg, hcor⟩ := hO.at hy hc hpc
  have hC0 := hC
  have hA0 := hA
  obtain ⟨hx, hb, hml, hown, hts, hEx, hr, hlk, hin, hK, hb0, hbs, hdf, hdl⟩ := hC
  obtain ⟨hRel, hS, hLV, hcl, hsl⟩ := hA
  simp only [gcor, Bool.and_eq_true, Bool.or_eq_true, decide_eq_true_eq, Bool.not_eq_true'] at hcor
  simp only [gstq, gi2, gl2] at hq
  obtain ⟨x, y1, r, rfl, hne, hk⟩ := hq
  obtain ⟨⟨hnx, rfl⟩, rfl⟩ := hcor
  exact lv_irem hx hb hdg hne (hk y l p e R s m args below meth c b0 b D G L H locs cells slots lsR (pc + 1) hy rfl hC0 hA0 (gpc_nx hnx))
set_option maxHeartbeats 1000000 in
theorem g_lrem {M : gT} {N : gN} {nM : Nat} (hO : gOK M N nM) : gGoal M N nM (.lrem) := by
  intro y l p e R s m args below meth c b0 b D G L H locs cells slots lsR pc d mc ms i ls st σ Q hq hy hc hC hA hpc
  obtain ⟨len, re, pl, hdg, hcor⟩ := hO.at hy hc hpc
  have hC0 := hC
  have hA0 := hA
  obtain ⟨hx, hb, hml, hown, hts, hEx, hr, hlk, hin, hK, hb0, hbs, hdf, hdl⟩ := hC
  obtain ⟨hRel, hS, hLV, hcl, hsl⟩ := hA
  simp only [gcor, Bool.and_eq_true, Bool.or_eq_true, decide_eq_true_eq, Bool.not_eq_true'] at hcor
  simp only [gstq, gi2, gl2] at hq
  obtain ⟨x, y1, r, rfl, hne, hk⟩ := hq
  obtain ⟨⟨hnx, rfl⟩, rfl⟩ := hcor
  exact lv_lrem hx hb hdg hne (hk y l p e R s m args below meth c b0 b D G L H locs cells slots lsR (pc + 1) hy rfl hC0 hA0 (gpc_nx hnx))
set_option maxHeartbeats 1000000 in
theorem g_ineg {M : gT} {N : gN} {nM : Nat} (hO : gOK M N nM) : gGoal M N nM (.ineg) := by
  intro y l p e R s m args below meth c b0 b D G L H locs cells slots lsR pc d mc ms i ls st σ Q hq hy hc hC hA hpc
  obtain ⟨len, re, pl, hdg, hcor⟩ := hO.at hy hc hpc
  have hC0 := hC
  have hA0 := hA
  obtain ⟨hx, hb, hml, hown, hts, hEx, hr, hlk, hin, hK, hb0, hbs, hdf, hdl⟩ := hC
  obtain ⟨hRel, hS, hLV, hcl, hsl⟩ := hA
  simp only [gcor, Bool.and_eq_true, Bool.or_eq_true, decide_eq_true_eq, Bool.not_eq_true'] at hcor
  simp only [gstq, gi2, gl2] at hq
  obtain ⟨x, r, rfl, hk⟩ := hq
  obtain ⟨⟨hnx, rfl⟩, rfl⟩ := hcor
  exact lv_ineg hx hb hdg (hk y l p e R s m args below meth c b0 b D G L H locs cells slots lsR (pc + 1) hy rfl hC0 hA0 (gpc_nx hnx))
set_option maxHeartbeats 1000000 in
theorem g_lushr {M : gT} {N : gN} {nM : Nat} (hO : gOK M N nM) : gGoal M N nM (.lushr) := by
  intro y l p e R s m args below meth c b0 b D G L H locs cells slots lsR pc d mc ms i ls st σ Q hq hy hc hC hA hpc
  obtain ⟨len, re, pl, hdg, hcor⟩ := hO.at hy hc hpc
  have hC0 := hC
  have hA0 := hA
  obtain ⟨hx, hb, hml, hown, hts, hEx, hr, hlk, hin, hK, hb0, hbs, hdf, hdl⟩ := hC
  obtain ⟨hRel, hS, hLV, hcl, hsl⟩ := hA
  simp only [gcor, Bool.and_eq_true, Bool.or_eq_true, decide_eq_true_eq, Bool.not_eq_true'] at hcor
  simp only [gstq, gi2, gl2] at hq
  obtain ⟨x, y1, r, rfl, hk⟩ := hq
  obtain ⟨⟨hnx, rfl⟩, rfl⟩ := hcor
  exact lv_lushr hx hb hdg rfl (hk y l p e R s m args below meth c b0 b D G L H locs cells slots lsR (pc + 1) hy rfl hC0 hA0 (gpc_nx hnx))
set_option maxHeartbeats 1000000 in
theorem g_lshl {M : gT} {N : gN} {nM : Nat} (hO : gOK M N nM) : gGoal M N nM (.lshl) := by
  intro y l p e R s m args below meth c b0 b D G L H locs cells slots lsR pc d mc ms i ls st σ Q hq hy hc hC hA hpc
  obtain ⟨len, re, pl, hdg, hcor⟩ := hO.at hy hc hpc
  have hC0 := hC
  have hA0 := hA
  obtain ⟨hx, hb, hml, hown, hts, hEx, hr, hlk, hin, hK, hb0, hbs, hdf, hdl⟩ := hC
  obtain ⟨hRel, hS, hLV, hcl, hsl⟩ := hA
  simp only [gcor, Bool.and_eq_true, Bool.or_eq_true, decide_eq_true_eq, Bool.not_eq_true'] at hcor
  simp only [gstq, gi2, gl2] at hq
  obtain ⟨x, y1, r, rfl, hk⟩ := hq
  obtain ⟨⟨hnx, rfl⟩, rfl⟩ := hcor
  exact lv_lshl hx hb hdg rfl (hk y l p e R s m args below meth c b0 b D G L H locs cells slots lsR (pc + 1) hy rfl hC0 hA0 (gpc_nx hnx))
set_option maxHeartbeats 1000000 in
theorem g_lcmp {M : gT} {N : gN} {nM : Nat} (hO : gOK M N nM) : gGoal M N nM (.lcmp) := by
  intro y l p e R s m args below meth c b0 b D G L H locs cells slots lsR pc d mc ms i ls st σ Q hq hy hc hC hA hpc
  obtain ⟨len, re, pl, hdg, hcor⟩ := hO.at hy hc hpc
  have hC0 := hC
  have hA0 := hA
  obtain ⟨hx, hb, hml, hown, hts, hEx, hr, hlk, hin, hK, hb0, hbs, hdf, hdl⟩ := hC
  obtain ⟨hRel, hS, hLV, hcl, hsl⟩ := hA
  simp only [gcor, Bool.and_eq_true, Bool.or_eq_true, decide_eq_true_eq, Bool.not_eq_true'] at hcor
  simp only [gstq, gi2, gl2] at hq
  obtain ⟨x, y1, r, rfl, hk⟩ := hq
  obtain ⟨⟨hnx, rfl⟩, rfl⟩ := hcor
  exact W.lcmp hx hb hdg (hk y l p e R s m args below meth c b0 b D G L H locs cells slots lsR (pc + 1) hy rfl hC0 hA0 (gpc_nx hnx))
set_option maxHeartbeats 1000000 in
theorem g_i2l {M : gT} {N : gN} {nM : Nat} (hO : gOK M N nM) : gGoal M N nM (.i2l) := by
  intro y l p e R s m args below meth c b0 b D G L H locs cells slots lsR pc d mc ms i ls st σ Q hq hy hc hC hA hpc
  obtain ⟨len, re, pl, hdg, hcor⟩ := hO.at hy hc hpc
  have hC0 := hC
  have hA0 := hA
  obtain ⟨hx, hb, hml, hown, hts, hEx, hr, hlk, hin, hK, hb0, hbs, hdf, hdl⟩ := hC
  obtain ⟨hRel, hS, hLV, hcl, hsl⟩ := hA
  simp only [gcor, Bool.and_eq_true, Bool.or_eq_true, decide_eq_true_eq, Bool.not_eq_true'] at hcor
  simp only [gstq, gi2, gl2] at hq
  obtain ⟨x, r, rfl, hk⟩ := hq
  obtain ⟨⟨hnx, rfl⟩, rfl⟩ := hcor
  exact lv_i2l hx hb hdg rfl (hk y l p e R s m args below meth c b0 b D G L H locs cells slots lsR (pc + 1) hy rfl hC0 hA0 (gpc_nx hnx))
set_option maxHeartbeats 1000000 in
theorem g_l2i {M : gT} {N : gN} {nM : Nat} (hO : gOK M N nM) : gGoal M N nM (.l2i) := by
  intro y l p e R s m args below meth c b0 b D G L H locs cells slots lsR pc d mc ms i ls st σ Q hq hy hc hC hA hpc
  obtain ⟨len, re, pl, hdg, hcor⟩ := hO.at hy hc hpc
  have hC0 := hC
  have hA0 := hA
  obtain ⟨hx, hb, hml, hown, hts, hEx, hr, hlk, hin, hK, hb0, hbs, hdf, hdl⟩ := hC
  obtain ⟨hRel, hS, hLV, hcl, hsl⟩ := hA
  simp only [gcor, Bool.and_eq_true, Bool.or_eq_true, decide_eq_true_eq, Bool.not_eq_true'] at hcor
  simp only [gstq, gi2, gl2] at hq
  obtain ⟨x, r, rfl, hk⟩ := hq
  obtain ⟨⟨hnx, rfl⟩, rfl⟩ := hcor
  exact lv_l2i hx hb hdg rfl (hk y l p e R s m args below meth c b0 b D G L H locs cells slots lsR (pc + 1) hy rfl hC0 hA0 (gpc_nx hnx))
set_option maxHeartbeats 1000000 in
theorem g_dup {M : gT} {N : gN} {nM : Nat} (hO : gOK M N nM) : gGoal M N nM (.dup) := by
  intro y l p e R s m args below meth c b0 b D G L H locs cells slots lsR pc d mc ms i ls st σ Q hq hy hc hC hA hpc
  obtain ⟨len, re, pl, hdg, hcor⟩ := hO.at hy hc hpc
  have hC0 := hC
  have hA0 := hA
  obtain ⟨hx, hb, hml, hown, hts, hEx, hr, hlk, hin, hK, hb0, hbs, hdf, hdl⟩ := hC
  obtain ⟨hRel, hS, hLV, hcl, hsl⟩ := hA
  simp only [gcor, Bool.and_eq_true, Bool.or_eq_true, decide_eq_true_eq, Bool.not_eq_true'] at hcor
  simp only [gstq, gi2, gl2] at hq
  obtain ⟨v, r, rfl, hv, hk⟩ := hq
  obtain ⟨⟨hnx, rfl⟩, rfl⟩ := hcor
  exact lv_dup hx hb hdg ((gv_catE b0 b v).trans hv) (hk y l p e R s m args below meth c b0 b D G L H locs cells slots lsR (pc + 1) hy rfl hC0 hA0 (gpc_nx hnx))
set_option maxHeartbeats 1000000 in
theorem g_pop {M : gT} {N : gN} {nM : Nat} (hO : gOK M N nM) : gGoal M N nM (.pop) := by
  intro y l p e R s m args below meth c b0 b D G L H locs cells slots lsR pc d mc ms i ls st σ Q hq hy hc hC hA hpc
  obtain ⟨len, re, pl, hdg, hcor⟩ := hO.at hy hc hpc
  have hC0 := hC
  have hA0 := hA
  obtain ⟨hx, hb, hml, hown, hts, hEx, hr, hlk, hin, hK, hb0, hbs, hdf, hdl⟩ := hC
  obtain ⟨hRel, hS, hLV, hcl, hsl⟩ := hA
  simp only [gcor, Bool.and_eq_true, Bool.or_eq_true, decide_eq_true_eq, Bool.not_eq_true'] at hcor
  simp only [gstq, gi2, gl2] at hq
  obtain ⟨v, r, rfl, hv, hk⟩ := hq
  obtain ⟨⟨hnx, rfl⟩, rfl⟩ := hcor
  exact lv_pop hx hb hdg ((gv_catE b0 b v).trans hv) (hk y l p e R s m args below meth c b0 b D G L H locs cells slots lsR (pc + 1) hy rfl hC0 hA0 (gpc_nx hnx))
set_option maxHeartbeats 1000000 in
theorem g_dup2 {M : gT} {N : gN} {nM : Nat} (hO : gOK M N nM) : gGoal M N nM (.dup2) := by
  intro y l p e R s m args below meth c b0 b D G L H locs cells slots lsR pc d mc ms i ls st σ Q hq hy hc hC hA hpc
  obtain ⟨len, re, pl, hdg, hcor⟩ := hO.at hy hc hpc
  have hC0 := hC
  have hA0 := hA
  obtain ⟨hx, hb, hml, hown, hts, hEx, hr, hlk, hin, hK, hb0, hbs, hdf, hdl⟩ := hC
  obtain ⟨hRel, hS, hLV, hcl, hsl⟩ := hA
  simp only [gcor, Bool.and_eq_true, Bool.or_eq_true, decide_eq_true_eq, Bool.not_eq_true'] at hcor
  simp only [gstq, gi2, gl2] at hq
  obtain ⟨v, w, r, rfl, hv, hw, hk⟩ := hq
  obtain ⟨⟨hnx, rfl⟩, rfl⟩ := hcor
  exact lv_dup2_11 hx hb hdg ((gv_catE b0 b v).trans hv) ((gv_catE b0 b w).trans hw) (hk y l p e R s m args below meth c b0 b D G L H locs cells slots lsR (pc + 1) hy rfl hC0 hA0 (gpc_nx hnx))
set_option maxHeartbeats 1000000 in
theorem g_iconst {M : gT} {N : gN} {nM : Nat} (hO : gOK M N nM) (n : Int) : gGoal M N nM (.iconst n) := by
  intro y l p e R s m args below meth c b0 b D G L H locs cells slots lsR pc d mc ms i ls st σ Q hq hy hc hC hA hpc
  obtain ⟨len, re, pl, hdg, hcor⟩ := hO.at hy hc hpc
  have hC0 := hC
  have hA0 := hA
  obtain ⟨hx, hb, hml, hown, hts, hEx, hr, hlk, hin, hK, hb0, hbs, hdf, hdl⟩ := hC
  obtain ⟨hRel, hS, hLV, hcl, hsl⟩ := hA
  simp only [gcor, Bool.and_eq_true, Bool.or_eq_true, decide_eq_true_eq, Bool.not_eq_true'] at hcor
  simp only [gstq, gi2, gl2] at hq
  obtain ⟨hnx, hcor⟩ := hcor
  cases re <;> first | (exact absurd hcor Bool.false_ne_true) | skip
  · simp only [Bool.and_eq_true, decide_eq_true_eq] at hcor
    obtain ⟨hv, rfl⟩ := hcor
    exact lv_bipush hx hb hdg hv (hq y l p e R s m args below meth c b0 b D G L H locs cells slots lsR (pc + 2) hy rfl hC0 hA0 (gpc_nx hnx))
  · simp only [Bool.and_eq_true, decide_eq_true_eq] at hcor
    obtain ⟨hv, rfl⟩ := hcor
    exact lv_iconst hx hb hdg hv (hq y l p e R s m args below meth c b0 b D G L H locs cells slots lsR (pc + 1) hy rfl hC0 hA0 (gpc_nx hnx))
  · simp only [Bool.and_eq_true, decide_eq_true_eq] at hcor
    obtain ⟨hv, rfl⟩ := hcor
    exact lv_ldcw hx hb hown (hts _ (gw_mem hv)) hdg (hq y l p e R s m args below meth c b0 b D G L H locs cells slots lsR (pc + 3) hy rfl hC0 hA0 (gpc_nx hnx))
  · simp only [Bool.and_eq_true, decide_eq_true_eq] at hcor
    obtain ⟨hv, rfl⟩ := hcor
    exact lv_sipush hx hb hdg hv (hq y l p e R s m args below meth c b0 b D G L H locs cells slots lsR (pc + 3) hy rfl hC0 hA0 (gpc_nx hnx))
set_option maxHeartbeats 1000000 in
theorem g_ldc2 {M : gT} {N : gN} {nM : Nat} (hO : gOK M N nM) (n : Nat) : gGoal M N nM (.ldc2_w n) := by
  intro y l p e R s m args below meth c b0 b D G L H locs cells slots lsR pc d mc ms i ls st σ Q hq hy hc hC hA hpc
  obtain ⟨len, re, pl, hdg, hcor⟩ := hO.at hy hc hpc
  have hC0 := hC
  have hA0 := hA
  obtain ⟨hx, hb, hml, hown, hts, hEx, hr, hlk, hin, hK, hb0, hbs, hdf, hdl⟩ := hC
  obtain ⟨hRel, hS, hLV, hcl, hsl⟩ := hA
  simp only [gcor, Bool.and_eq_true, Bool.or_eq_true, decide_eq_true_eq, Bool.not_eq_true'] at hcor
  simp only [gstq, gi2, gl2] at hq
  obtain ⟨hnx, hcor⟩ := hcor
  cases re <;> first | (exact absurd hcor Bool.false_ne_true) | skip
  · simp only [Bool.and_eq_true, decide_eq_true_eq] at hcor
    obtain ⟨hv, rfl⟩ := hcor
    exact lv_lconst hx hb hdg hv (hq y l p e R s m args below meth c b0 b D G L H locs cells slots lsR (pc + 1) hy rfl hC0 hA0 (gpc_nx hnx))
  · simp only [Bool.and_eq_true, decide_eq_true_eq] at hcor
    obtain ⟨hv, rfl⟩ := hcor
    exact lv_ldc2 hx hb hown (hts _ (gw_mem hv)) hdg (hq y l p e R s m args below meth c b0 b D G L H locs cells slots lsR (pc + 3) hy rfl hC0 hA0 (gpc_nx hnx))
set_option maxHeartbeats 1000000 in
theorem g_iload {M : gT} {N : gN} {nM : Nat} (hO : gOK M N nM) (k : Nat) : gGoal M N nM (.iload k) := by
  intro y l p e R s m args below meth c b0 b D G L H locs cells slots lsR pc d mc ms i ls st σ Q hq hy hc hC hA hpc
  obtain ⟨len, re, pl, hdg, hcor⟩ := hO.at hy hc hpc
  have hC0 := hC
  have hA0 := hA
  obtain ⟨hx, hb, hml, hown, hts, hEx, hr, hlk, hin, hK, hb0, hbs, hdf, hdl⟩ := hC
  obtain ⟨hRel, hS, hLV, hcl, hsl⟩ := hA
  simp only [gcor, Bool.and_eq_true, Bool.or_eq_true, decide_eq_true_eq, Bool.not_eq_true'] at hcor
  simp only [gstq, gi2, gl2] at hq
  obtain ⟨x, hl, hk⟩ := hq
  have hl := hLV.2.2 k _ hl (by simp)
  obtain ⟨hnx, hcor⟩ := hcor
  cases re <;> first | (exact absurd hcor Bool.false_ne_true) | skip
  · simp only [Bool.and_eq_true, decide_eq_true_eq] at hcor
    obtain ⟨rfl, rfl⟩ := hcor
    exact lv_iload hx hb hdg hl (hk y l p e R s m args below meth c b0 b D G L H locs cells slots lsR (pc + 2) hy rfl hC0 hA0 (gpc_nx hnx))
  · simp only [Bool.and_eq_true, decide_eq_true_eq] at hcor
    obtain ⟨rfl, rfl⟩ := hcor
    exact lv_iload_n hx hb hdg rfl hl (hk y l p e R s m args below meth c b0 b D G L H locs cells slots lsR (pc + 1) hy rfl hC0 hA0 (gpc_nx hnx))
set_option maxHeartbeats 1000000 in
theorem g_lload {M : gT} {N : gN} {nM : Nat} (hO : gOK M N nM) (k : Nat) : gGoal M N nM (.lload k) := by
  intro y l p e R s m args below meth c b0 b D G L H locs cells slots lsR pc d mc ms i ls st σ Q hq hy hc hC hA hpc
  obtain ⟨len, re, pl, hdg, hcor⟩ := hO.at hy hc hpc
  have hC0 := hC
  have hA0 := hA
  obtain ⟨hx, hb, hml, hown, hts, hEx, hr, hlk, hin, hK, hb0, hbs, hdf, hdl⟩ := hC
  obtain ⟨hRel, hS, hLV, hcl, hsl⟩ := hA
  simp only [gcor, Bool.and_eq_true, Bool.or_eq_true, decide_eq_true_eq, Bool.not_eq_true'] at hcor
  simp only [gstq, gi2, gl2] at hq
  obtain ⟨x, hl, hk⟩ := hq
  have hl := hLV.2.2 k _ hl (by simp)
  obtain ⟨hnx, hcor⟩ := hcor
  cases re <;> first | (exact absurd hcor Bool.false_ne_true) | skip
  · simp only [Bool.and_eq_true, decide_eq_true_eq] at hcor
    obtain ⟨rfl, rfl⟩ := hcor
    exact lv_lload hx hb hdg hl (hk y l p e R s m args below meth c b0 b D G L H locs cells slots lsR (pc + 2) hy rfl hC0 hA0 (gpc_nx hnx))
  · simp only [Bool.and_eq_true, decide_eq_true_eq] at hcor
    obtain ⟨rfl, rfl⟩ := hcor
    exact lv_lload_n hx hb hdg rfl hl (hk y l p e R s m args below meth c b0 b D G L H locs cells slots lsR (pc + 1) hy rfl hC0 hA0 (gpc_nx hnx))
set_option maxHeartbeats 1000000 in
theorem g_aload {M : gT} {N : gN} {nM : Nat} (hO : gOK M N nM) (k : Nat) : gGoal M N nM (.aload k) := by
  intro y l p e R s m args below meth c b0 b D G L H locs cells slots lsR pc d mc ms i ls st σ Q hq hy hc hC hA hpc
  obtain ⟨len, re, pl, hdg, hcor⟩ := hO.at hy hc hpc
  have hC0 := hC
  have hA0 := hA
  obtain ⟨hx, hb, hml, hown, hts, hEx, hr, hlk, hin, hK, hb0, hbs, hdf, hdl⟩ := hC
  obtain ⟨hRel, hS, hLV, hcl, hsl⟩ := hA
  simp only [gcor, Bool.and_eq_true, Bool.or_eq_true, decide_eq_true_eq, Bool.not_eq_true'] at hcor
  simp only [gstq, gi2, gl2] at hq
  obtain ⟨x, hl, hk⟩ := hq
  have hl := hLV.2.2 k _ hl (by simp)
  have hk : ∀ pc', gpc (N y).2.2.2.1 ((i + 1 : Nat) : Int) = some ((pc' : Nat) : Int) → W p l e R s m args below meth c H locs cells slots (MQ below (gQc b0 b D G L Q) args s R.cells R.slots (gA b)) (F0 m pc' lsR (gv b0 b (.ref x) :: st.map (gv b0 b))) := fun pc' h => hk y l p e R s m args below meth c b0 b D G L H locs cells slots lsR pc' hy rfl hC0 hA0 h
  obtain ⟨hnx, hcor⟩ := hcor
  have hg : gv b0 b (.ref x) = va_rf (gm b0 b x) := rfl
  rw [hg] at hl hk
  cases re <;> first | (exact absurd hcor Bool.false_ne_true) | skip
  · simp only [Bool.and_eq_true, decide_eq_true_eq] at hcor
    obtain ⟨rfl, rfl⟩ := hcor
    cases hz : gm b0 b x with
    | none => rw [hz] at hl hk; exact lv_aloadN hx hb hdg hl (hk _ (gpc_nx hnx))
    | some a => rw [hz] at hl hk; exact lv_aload hx hb hdg hl (hk _ (gpc_nx hnx))
  · simp only [Bool.and_eq_true, decide_eq_true_eq] at hcor
    obtain ⟨rfl, rfl⟩ := hcor
    cases hz : gm b0 b x with
    | none => rw [hz] at hl hk; exact lv_aload_nN hx hb hdg rfl hl (hk _ (gpc_nx hnx))
    | some a => rw [hz] at hl hk; exact lv_aload_n hx hb hdg rfl hl (hk _ (gpc_nx hnx))
set_option maxHeartbeats 1000000 in
theorem g_istore {M : gT} {N : gN} {nM : Nat} (hO : gOK M N nM) (k : Nat) : gGoal M N nM (.istore k) := by
  intro y l p e R s m args below meth c b0 b D G L H locs cells slots lsR pc d mc ms i ls st σ Q hq hy hc hC hA hpc
  obtain ⟨len, re, pl, hdg, hcor⟩ := hO.at hy hc hpc
  have hC0 := hC
  have hA0 := hA
  obtain ⟨hx, hb, hml, hown, hts, hEx, hr, hlk, hin, hK, hb0, hbs, hdf, hdl⟩ := hC
  obtain ⟨hRel, hS, hLV, hcl, hsl⟩ := hA
  simp only [gcor, Bool.and_eq_true, Bool.or_eq_true, decide_eq_true_eq, Bool.not_eq_true'] at hcor
  simp only [gstq, gi2, gl2] at hq
  obtain ⟨x, r, rfl, hok, hlt, hk⟩ := hq
  rw [hLV.2.1] at hlt
  obtain ⟨hnx, hcor⟩ := hcor
  cases re <;> first | (exact absurd hcor Bool.false_ne_true) | skip
  · simp only [Bool.and_eq_true, decide_eq_true_eq] at hcor
    obtain ⟨rfl, rfl⟩ := hcor
    exact lv_istore hx hb hdg hLV.has hlt rfl (fun ls1 h => hk y l p e R s m args below meth c b0 b D G L H locs cells slots ls1 (pc + 2) hy rfl hC0 ⟨hRel, hS, gLV.store1 (v := .int x) hLV.2.1 hok hlt h, hcl, hsl⟩ (gpc_nx hnx))
  · simp only [Bool.and_eq_true, decide_eq_true_eq] at hcor
    obtain ⟨rfl, rfl⟩ := hcor
    exact lv_istore_n hx hb hdg rfl hLV.has hlt rfl (fun ls1 h => hk y l p e R s m args below meth c b0 b D G L H locs cells slots ls1 (pc + 1) hy rfl hC0 ⟨hRel, hS, gLV.store1 (v := .int x) hLV.2.1 hok hlt h, hcl, hsl⟩ (gpc_nx hnx))
set_option maxHeartbeats 1000000 in
theorem g_lstore {M : gT} {N : gN} {nM : Nat} (hO : gOK M N nM) (k : Nat) : gGoal M N nM (.lstore k) := by
  intro y l p e R s m args below meth c b0 b D G L H locs cells slots lsR pc d mc ms i ls st σ Q hq hy hc hC hA hpc
  obtain ⟨len, re, pl, hdg, hcor⟩ := hO.at hy hc hpc
  have hC0 := hC
  have hA0 := hA
  obtain ⟨hx, hb, hml, hown, hts, hEx, hr, hlk, hin, hK, hb0, hbs, hdf, hdl⟩ := hC
  obtain ⟨hRel, hS, hLV, hcl, hsl⟩ := hA
  simp only [gcor, Bool.and_eq_true, Bool.or_eq_true, decide_eq_true_eq, Bool.not_eq_true'] at hcor
  simp only [gstq, gi2, gl2] at hq
  obtain ⟨x, r, rfl, hok, hlt, hk⟩ := hq
  rw [hLV.2.1] at hlt
  obtain ⟨hnx, hcor⟩ := hcor
  cases re <;> first | (exact absurd hcor Bool.false_ne_true) | skip
  · simp only [Bool.and_eq_true, decide_eq_true_eq] at hcor
    obtain ⟨rfl, rfl⟩ := hcor
    exact lv_lstore hx hb hdg hLV.has hlt rfl (fun ls1 h => hk y l p e R s m args below meth c b0 b D G L H locs cells slots ls1 (pc + 2) hy rfl hC0 ⟨hRel, hS, gLV.store2 (v := .long x) hLV.2.1 hok hlt h, hcl, hsl⟩ (gpc_nx hnx))
  · simp only [Bool.and_eq_true, decide_eq_true_eq] at hcor
    obtain ⟨rfl, rfl⟩ := hcor
    exact lv_lstore_n hx hb hdg rfl hLV.has hlt rfl (fun ls1 h => hk y l p e R s m args below meth c b0 b D G L H locs cells slots ls1 (pc + 1) hy rfl hC0 ⟨hRel, hS, gLV.store2 (v := .long x) hLV.2.1 hok hlt h, hcl, hsl⟩ (gpc_nx hnx))
set_option maxHeartbeats 1000000 in
theorem g_astore {M : gT} {N : gN} {nM : Nat} (hO : gOK M N nM) (k : Nat) : gGoal M N nM (.astore k) := by
  intro y l p e R s m args below meth c b0 b D G L H locs cells slots lsR pc d mc ms i ls st σ Q hq hy hc hC hA hpc
  obtain ⟨len, re, pl, hdg, hcor⟩ := hO.at hy hc hpc
  have hC0 := hC
  have hA0 := hA
  obtain ⟨hx, hb, hml, hown, hts, hEx, hr, hlk, hin, hK, hb0, hbs, hdf, hdl⟩ := hC
  obtain ⟨hRel, hS, hLV, hcl, hsl⟩ := hA
  simp only [gcor, Bool.and_eq_true, Bool.or_eq_true, decide_eq_true_eq, Bool.not_eq_true'] at hcor
  simp only [gstq, gi2, gl2] at hq
  obtain ⟨x, r, rfl, hok, hlt, hk⟩ := hq
  rw [hLV.2.1] at hlt
  obtain ⟨hnx, hcor⟩ := hcor
  have hk : ∀ pc' ls1, gpc (N y).2.2.2.1 ((i + 1 : Nat) : Int) = some ((pc' : Nat) : Int) → lv_has ls1 (M y).2.1 ((k, va_rf (gm b0 b x)) :: (gasc b0 b ls).filter (fun q => !(q.1 == k) && !(q.1 + 1 == k && q.2.category == 2))) → W p l e R s m args below meth c H locs cells slots (MQ below (gQc b0 b D G L Q) args s R.cells R.slots (gA b)) (F0 m pc' ls1 (r.map (gv b0 b))) := fun pc' ls1 h1 h => hk y l p e R s m args below meth c b0 b D G L H locs cells slots ls1 pc' hy rfl hC0 ⟨hRel, hS, gLV.store1 (v := .ref x) hLV.2.1 hok hlt h, hcl, hsl⟩ h1
  show W p l e R s m args below meth c H locs cells slots _ (F0 m pc lsR (va_rf (gm b0 b x) :: r.map (gv b0 b)))
  cases re <;> first | (exact absurd hcor Bool.false_ne_true) | skip
  · simp only [Bool.and_eq_true, decide_eq_true_eq] at hcor
    obtain ⟨rfl, rfl⟩ := hcor
    cases hz : gm b0 b x with
    | none => rw [hz] at hk; exact lv_astoreN hx hb hdg hLV.has hlt rfl (fun ls1 h => hk _ ls1 (gpc_nx hnx) h)
    | some a => rw [hz] at hk; exact lv_astore hx hb hdg hLV.has hlt rfl (fun ls1 h => hk _ ls1 (gpc_nx hnx) h)
  · simp only [Bool.and_eq_true, decide_eq_true_eq] at hcor
    obtain ⟨rfl, rfl⟩ := hcor
    cases hz : gm b0 b x with
    | none => rw [hz] at hk; exact lv_astore_nN hx hb hdg rfl hLV.has hlt rfl (fun ls1 h => hk _ ls1 (gpc_nx hnx) h)
    | some a => rw [hz] at hk; exact lv_astore_n hx hb hdg rfl hLV.has hlt rfl (fun ls1 h => hk _ ls1 (gpc_nx hnx) h)
set_option maxHeartbeats 1000000 in
theorem g_iinc {M : gT} {N : gN} {nM : Nat} (hO : gOK M N nM) (k : Nat) (n : Int) : gGoal M N nM (.iinc k n) := by
  intro y l p e R s m args below meth c b0 b D G L H locs cells slots lsR pc d mc ms i ls st σ Q hq hy hc hC hA hpc
  obtain ⟨len, re, pl, hdg, hcor⟩ := hO.at hy hc hpc
  have hC0 := hC
  have hA0 := hA
  obtain ⟨hx, hb, hml, hown, hts, hEx, hr, hlk, hin, hK, hb0, hbs, hdf, hdl⟩ := hC
  obtain ⟨hRel, hS, hLV, hcl, hsl⟩ := hA
  simp only [gcor, Bool.and_eq_true, Bool.or_eq_true, decide_eq_true_eq, Bool.not_eq_true'] at hcor
  simp only [gstq, gi2, gl2] at hq
  obtain ⟨x, hl, hok, hk⟩ := hq
  obtain ⟨⟨hnx, rfl⟩, rfl⟩ := hcor
  have hlt : k < (M y).2.1 := by rw [← hLV.2.1]; exact (List.getElem?_eq_some_iff.mp hl).1
  obtain ⟨kk, hkk⟩ := List.getElem?_of_mem (gasc_mem (b0 := b0) (b := b) (q := (k, .int x)) |>.mpr ⟨_, hl, by simp, rfl⟩)
  exact lv_iinc hx hb hdg hLV.has hkk rfl hlt rfl (fun ls1 h => hk y l p e R s m args below meth c b0 b D G L H locs cells slots ls1 (pc + 3) hy rfl hC0 ⟨hRel, hS, gLV.store1 (v := .int (x + Int32.ofInt n)) hLV.2.1 hok hlt h, hcl, hsl⟩ (gpc_nx hnx))
set_option maxHeartbeats 1000000 in
theorem g_goto {M : gT} {N : gN} {nM : Nat} (hO : gOK M N nM) (t : Int) : gGoal M N nM (.goto t) := by
  intro y l p e R s m args below meth c b0 b D G L H locs cells slots lsR pc d mc ms i ls st σ Q hq hy hc hC hA hpc
  obtain ⟨len, re, pl, hdg, hcor⟩ := hO.at hy hc hpc
  have hC0 := hC
  have hA0 := hA
  obtain ⟨hx, hb, hml, hown, hts, hEx, hr, hlk, hin, hK, hb0, hbs, hdf, hdl⟩ := hC
  obtain ⟨hRel, hS, hLV, hcl, hsl⟩ := hA
  simp only [gcor, Bool.and_eq_true, Bool.or_eq_true, decide_eq_true_eq, Bool.not_eq_true'] at hcor
  simp only [gstq, gi2, gl2] at hq
  cases re <;> first | (exact absurd hcor Bool.false_ne_true) | skip
  simp only [Bool.and_eq_true, decide_eq_true_eq] at hcor
  obtain ⟨rfl, hp⟩ := hcor
  obtain ⟨k, hk1, hk2⟩ := gpc_nat hp
  exact lv_goto hx hb hdg hk1 (hq y l p e R s m args below meth c b0 b D G L H locs cells slots lsR k hy rfl hC0 hA0 hk2)
set_option maxHeartbeats 1000000 in
theorem g_icmp {M : gT} {N : gN} {nM : Nat} (hO : gOK M N nM) (co : ClassFile.Cond) (t : Int) : gGoal M N nM (.if_icmp co t) := by
  intro y l p e R s m args below meth c b0 b D G L H locs cells slots lsR pc d mc ms i ls st σ Q hq hy hc hC hA hpc
  obtain ⟨len, re, pl, hdg, hcor⟩ := hO.at hy hc hpc
  have hC0 := hC
  have hA0 := hA
  obtain ⟨hx, hb, hml, hown, hts, hEx, hr, hlk, hin, hK, hb0, hbs, hdf, hdl⟩ := hC
  obtain ⟨hRel, hS, hLV, hcl, hsl⟩ := hA
  simp only [gcor, Bool.and_eq_true, Bool.or_eq_true, decide_eq_true_eq, Bool.not_eq_true'] at hcor
  simp only [gstq, gi2, gl2] at hq
  obtain ⟨x, y1, r, rfl, h1, h2⟩ := hq
  obtain ⟨hnx, hcor⟩ := hcor
  cases re <;> first | (exact absurd hcor Bool.false_ne_true) | skip
  simp only [Bool.and_eq_true, decide_eq_true_eq] at hcor
  obtain ⟨⟨hco, rfl⟩, hp⟩ := hcor
  rw [hco] at hdg
  obtain ⟨k, hk1, hk2⟩ := gpc_nat hp
  cases co
  · exact lv_icmp_eq hx hb hdg hk1 (fun z => h1 z y l p e R s m args below meth c b0 b D G L H locs cells slots lsR k hy rfl hC0 hA0 hk2) (fun z => h2 z y l p e R s m args below meth c b0 b D G L H locs cells slots lsR (pc + 3) hy rfl hC0 hA0 (gpc_nx hnx))
  · exact lv_icmp_ne hx hb hdg hk1 (fun z => h1 z y l p e R s m args below meth c b0 b D G L H locs cells slots lsR k hy rfl hC0 hA0 hk2) (fun z => h2 (fun q => q z) y l p e R s m args below meth c b0 b D G L H locs cells slots lsR (pc + 3) hy rfl hC0 hA0 (gpc_nx hnx))
  · exact lv_icmp_lt hx hb hdg hk1 (fun z => h1 z y l p e R s m args below meth c b0 b D G L H locs cells slots lsR k hy rfl hC0 hA0 hk2) (fun z => h2 z y l p e R s m args below meth c b0 b D G L H locs cells slots lsR (pc + 3) hy rfl hC0 hA0 (gpc_nx hnx))
  · exact lv_icmp_ge hx hb hdg hk1 (fun z => h1 z y l p e R s m args below meth c b0 b D G L H locs cells slots lsR k hy rfl hC0 hA0 hk2) (fun z => h2 z y l p e R s m args below meth c b0 b D G L H locs cells slots lsR (pc + 3) hy rfl hC0 hA0 (gpc_nx hnx))
  · exact lv_icmp_gt hx hb hdg hk1 (fun z => h1 z y l p e R s m args below meth c b0 b D G L H locs cells slots lsR k hy rfl hC0 hA0 hk2) (fun z => h2 z y l p e R s m args below meth c b0 b D G L H locs cells slots lsR (pc + 3) hy rfl hC0 hA0 (gpc_nx hnx))
  · exact lv_icmp_le hx hb hdg hk1 (fun z => h1 z y l p e R s m args below meth c b0 b D G L H locs cells slots lsR k hy rfl hC0 hA0 hk2) (fun z => h2 z y l p e R s m args below meth c b0 b D G L H locs cells slots lsR (pc + 3) hy rfl hC0 hA0 (gpc_nx hnx))
set_option maxHeartbeats 1000000 in
theorem g_ifc {M : gT} {N : gN} {nM : Nat} (hO : gOK M N nM) (co : ClassFile.Cond) (t : Int) : gGoal M N nM (.ifCond co t) := by
  intro y l p e R s m args below meth c b0 b D G L H locs cells slots lsR pc d mc ms i ls st σ Q hq hy hc hC hA hpc
  obtain ⟨len, re, pl, hdg, hcor⟩ := hO.at hy hc hpc
  have hC0 := hC
  have hA0 := hA
  obtain ⟨hx, hb, hml, hown, hts, hEx, hr, hlk, hin, hK, hb0, hbs, hdf, hdl⟩ := hC
  obtain ⟨hRel, hS, hLV, hcl, hsl⟩ := hA
  simp only [gcor, Bool.and_eq_true, Bool.or_eq_true, decide_eq_true_eq, Bool.not_eq_true'] at hcor
  simp only [gstq, gi2, gl2] at hq
  obtain ⟨x, r, rfl, h1, h2⟩ := hq
  obtain ⟨hnx, hcor⟩ := hcor
  cases re <;> first | (exact absurd hcor Bool.false_ne_true) | skip
  simp only [Bool.and_eq_true, decide_eq_true_eq] at hcor
  obtain ⟨⟨hco, rfl⟩, hp⟩ := hcor
  rw [hco] at hdg
  obtain ⟨k, hk1, hk2⟩ := gpc_nat hp
  cases co
  · exact lv_if_eq hx hb hdg hk1 (fun z => h1 z y l p e R s m args below meth c b0 b D G L H locs cells slots lsR k hy rfl hC0 hA0 hk2) (fun z => h2 z y l p e R s m args below meth c b0 b D G L H locs cells slots lsR (pc + 3) hy rfl hC0 hA0 (gpc_nx hnx))
  · exact lv_if_ne hx hb hdg hk1 (fun z => h1 z y l p e R s m args below meth c b0 b D G L H locs cells slots lsR k hy rfl hC0 hA0 hk2) (fun z => h2 (fun q => q z) y l p e R s m args below meth c b0 b D G L H locs cells slots lsR (pc + 3) hy rfl hC0 hA0 (gpc_nx hnx))
  · exact lv_if_lt hx hb hdg hk1 (fun z => h1 z y l p e R s m args below meth c b0 b D G L H locs cells slots lsR k hy rfl hC0 hA0 hk2) (fun z => h2 z y l p e R s m args below meth c b0 b D G L H locs cells slots lsR (pc + 3) hy rfl hC0 hA0 (gpc_nx hnx))
  · exact lv_if_ge hx hb hdg hk1 (fun z => h1 z y l p e R s m args below meth c b0 b D G L H locs cells slots lsR k hy rfl hC0 hA0 hk2) (fun z => h2 z y l p e R s m args below meth c b0 b D G L H locs cells slots lsR (pc + 3) hy rfl hC0 hA0 (gpc_nx hnx))
  · exact lv_if_gt hx hb hdg hk1 (fun z => h1 z y l p e R s m args below meth c b0 b D G L H locs cells slots lsR k hy rfl hC0 hA0 hk2) (fun z => h2 z y l p e R s m args below meth c b0 b D G L H locs cells slots lsR (pc + 3) hy rfl hC0 hA0 (gpc_nx hnx))
  · exact lv_if_le hx hb hdg hk1 (fun z => h1 z y l p e R s m args below meth c b0 b D G L H locs cells slots lsR k hy rfl hC0 hA0 hk2) (fun z => h2 z y l p e R s m args below meth c b0 b D G L H locs cells slots lsR (pc + 3) hy rfl hC0 hA0 (gpc_nx hnx))
set_option maxHeartbeats 1000000 in
theorem g_getI {M : gT} {N : gN} {nM : Nat} (hO : gOK M N nM) (e1 : Nat) : gGoal M N nM (.getfield e1) := by
  intro y l p e R s m args below meth c b0 b D G L H locs cells slots lsR pc d mc ms i ls st σ Q hq hy hc hC hA hpc
  obtain ⟨len, re, pl, hdg, hcor⟩ := hO.at hy hc hpc
  have hC0 := hC
  have hA0 := hA
  obtain ⟨hx, hb, hml, hown, hts, hEx, hr, hlk, hin, hK, hb0, hbs, hdf, hdl⟩ := hC
  obtain ⟨hRel, hS, hLV, hcl, hsl⟩ := hA
  simp only [gcor, Bool.and_eq_true, Bool.or_eq_true, decide_eq_true_eq, Bool.not_eq_true'] at hcor
  simp only [gstq, gi2, gl2] at hq
  obtain ⟨a, r, rfl, hsh, hk⟩ := hq
  obtain ⟨⟨hnx, hfl⟩, hty⟩ := hcor
  simp only [gfl, Bool.and_eq_true, decide_eq_true_eq] at hfl
  obtain ⟨⟨⟨h9, hkn⟩, rfl⟩, hfl⟩ := hfl
  cases re <;> first | (exact absurd hfl Bool.false_ne_true) | skip
  have hCl := hO.2.2.1 (e1 / 64) h9
  obtain ⟨hin9, hcl9, hty9, hnm9, hinst9, hini9, -⟩ := hCl
  obtain ⟨ha2, haz⟩ := hRel.2.2.1.obj hsh (by omega)
  have hat := gws_at (b0 := b0) (b := b) (G := G) ha2 haz
  rw [gcell_obj hsh (by omega)] at hat
  have hv := gfs_get (b0 := b0) (b := b) (σ := σ) (x := e1 / 64) (a := a) hkn
  have hfv : gfv b0 b σ (gty (e1 / 64) (e1 % 64)) a (e1 % 64) = gv b0 b (.int (git σ a (e1 % 64))) := by
    rw [hty]
    rfl
  rw [hfv] at hv
  have key := hk y l p e R s m args below meth c b0 b D G L H locs cells slots lsR (pc + 3) hy rfl hC0 hA0 (gpc_nx hnx)
  show W p l e R s m args below meth c H locs cells slots _ (F0 m pc lsR (gv b0 b (.ref a) :: r.map (gv b0 b)))
  rw [gv_2 ha2]
  exact va_get (D := D) (ci := e1 / 64) (C := gRX (e1 / 64)) (T := gTT (e1 / 64)) (N := gnf (e1 / 64)) hx hb hts hin9 hown hK hRel.1 (a - 2) hat hcl9 (e1 % 64) hkn (hts _ (gw_mem hfl)) (fun _ h9 => h9) hv hdg key
set_option maxHeartbeats 1000000 in
theorem g_getL {M : gT} {N : gN} {nM : Nat} (hO : gOK M N nM) (e1 : Nat) : gGoal M N nM (.dload e1) := by
  intro y l p e R s m args below meth c b0 b D G L H locs cells slots lsR pc d mc ms i ls st σ Q hq hy hc hC hA hpc
  obtain ⟨len, re, pl, hdg, hcor⟩ := hO.at hy hc hpc
  have hC0 := hC
  have hA0 := hA
  obtain ⟨hx, hb, hml, hown, hts, hEx, hr, hlk, hin, hK, hb0, hbs, hdf, hdl⟩ := hC
  obtain ⟨hRel, hS, hLV, hcl, hsl⟩ := hA
  simp only [gcor, Bool.and_eq_true, Bool.or_eq_true, decide_eq_true_eq, Bool.not_eq_true'] at hcor
  simp only [gstq, gi2, gl2] at hq
  obtain ⟨a, r, rfl, hsh, hk⟩ := hq
  obtain ⟨⟨hnx, hfl⟩, hty⟩ := hcor
  simp only [gfl, Bool.and_eq_true, decide_eq_true_eq] at hfl
  obtain ⟨⟨⟨h9, hkn⟩, rfl⟩, hfl⟩ := hfl
  cases re <;> first | (exact absurd hfl Bool.false_ne_true) | skip
  have hCl := hO.2.2.1 (e1 / 64) h9
  obtain ⟨hin9, hcl9, hty9, hnm9, hinst9, hini9, -⟩ := hCl
  obtain ⟨ha2, haz⟩ := hRel.2.2.1.obj hsh (by omega)
  have hat := gws_at (b0 := b0) (b := b) (G := G) ha2 haz
  rw [gcell_obj hsh (by omega)] at hat
  have hv := gfs_get (b0 := b0) (b := b) (σ := σ) (x := e1 / 64) (a := a) hkn
  have hfv : gfv b0 b σ (gty (e1 / 64) (e1 % 64)) a (e1 % 64) = gv b0 b (.long (glg σ a (e1 % 64))) := by
    rw [hty]
    rfl
  rw [hfv] at hv
  have key := hk y l p e R s m args below meth c b0 b D G L H locs cells slots lsR (pc + 3) hy rfl hC0 hA0 (gpc_nx hnx)
  show W p l e R s m args below meth c H locs cells slots _ (F0 m pc lsR (gv b0 b (.ref a) :: r.map (gv b0 b)))
  rw [gv_2 ha2]
  exact va_get (D := D) (ci := e1 / 64) (C := gRX (e1 / 64)) (T := gTT (e1 / 64)) (N := gnf (e1 / 64)) hx hb hts hin9 hown hK hRel.1 (a - 2) hat hcl9 (e1 % 64) hkn (hts _ (gw_mem hfl)) (fun _ h9 => h9) hv hdg key
set_option maxHeartbeats 1000000 in
theorem g_getR {M : gT} {N : gN} {nM : Nat} (hO : gOK M N nM) (e1 : Nat) : gGoal M N nM (.getstatic e1) := by
  intro y l p e R s m args below meth c b0 b D G L H locs cells slots lsR pc d mc ms i ls st σ Q hq hy hc hC hA hpc
  obtain ⟨len, re, pl, hdg, hcor⟩ := hO.at hy hc hpc
  have hC0 := hC
  have hA0 := hA
  obtain ⟨hx, hb, hml, hown, hts, hEx, hr, hlk, hin, hK, hb0, hbs, hdf, hdl⟩ := hC
  obtain ⟨hRel, hS, hLV, hcl, hsl⟩ := hA
  simp only [gcor, Bool.and_eq_true, Bool.or_eq_true, decide_eq_true_eq, Bool.not_eq_true'] at hcor
  simp only [gstq, gi2, gl2] at hq
  obtain ⟨a, r, rfl, hsh, hk⟩ := hq
  obtain ⟨⟨hnx, hfl⟩, hty⟩ := hcor
  simp only [gfl, Bool.and_eq_true, decide_eq_true_eq] at hfl
  obtain ⟨⟨⟨h9, hkn⟩, rfl⟩, hfl⟩ := hfl
  cases re <;> first | (exact absurd hfl Bool.false_ne_true) | skip
  have hCl := hO.2.2.1 (e1 / 64) h9
  obtain ⟨hin9, hcl9, hty9, hnm9, hinst9, hini9, -⟩ := hCl
  obtain ⟨ha2, haz⟩ := hRel.2.2.1.obj hsh (by omega)
  have hat := gws_at (b0 := b0) (b := b) (G := G) ha2 haz
  rw [gcell_obj hsh (by omega)] at hat
  have hv := gfs_get (b0 := b0) (b := b) (σ := σ) (x := e1 / 64) (a := a) hkn
  have hfv : gfv b0 b σ (gty (e1 / 64) (e1 % 64)) a (e1 % 64) = gv b0 b (.ref (grf σ a (e1 % 64))) := by
    show _ = va_rf (gm b0 b (grf σ a (e1 % 64)))
    cases hq2 : gty (e1 / 64) (e1 % 64) <;> rw [hq2] at hty <;> first | rfl | (exact absurd hty Bool.false_ne_true)
  rw [hfv] at hv
  have key := hk y l p e R s m args below meth c b0 b D G L H locs cells slots lsR (pc + 3) hy rfl hC0 hA0 (gpc_nx hnx)
  show W p l e R s m args below meth c H locs cells slots _ (F0 m pc lsR (gv b0 b (.ref a) :: r.map (gv b0 b)))
  rw [gv_2 ha2]
  exact va_get (D := D) (ci := e1 / 64) (C := gRX (e1 / 64)) (T := gTT (e1 / 64)) (N := gnf (e1 / 64)) hx hb hts hin9 hown hK hRel.1 (a - 2) hat hcl9 (e1 % 64) hkn (hts _ (gw_mem hfl)) (fun _ h9 => h9) hv hdg key
set_option maxHeartbeats 1000000 in
theorem g_putI {M : gT} {N : gN} {nM : Nat} (hO : gOK M N nM) (e1 : Nat) : gGoal M N nM (.putfield e1) := by
  intro y l p e R s m args below meth c b0 b D G L H locs cells slots lsR pc d mc ms i ls st σ Q hq hy hc hC hA hpc
  obtain ⟨len, re, pl, hdg, hcor⟩ := hO.at hy hc hpc
  have hC0 := hC
  have hA0 := hA
  obtain ⟨hx, hb, hml, hown, hts, hEx, hr, hlk, hin, hK, hb0, hbs, hdf, hdl⟩ := hC
  obtain ⟨hRel, hS, hLV, hcl, hsl⟩ := hA
  simp only [gcor, Bool.and_eq_true, Bool.or_eq_true, decide_eq_true_eq, Bool.not_eq_true'] at hcor
  simp only [gstq, gi2, gl2] at hq
  obtain ⟨x, a, r, rfl, hsh, hk⟩ := hq
  obtain ⟨⟨hnx, hfl⟩, hty⟩ := hcor
  simp only [gfl, Bool.and_eq_true, Bool.or_eq_true, decide_eq_true_eq] at hfl
  obtain ⟨⟨⟨h9, hkn⟩, rfl⟩, hfl⟩ := hfl
  cases re <;> first | (exact absurd hfl Bool.false_ne_true) | skip
  simp only [Bool.and_eq_true, Bool.or_eq_true, decide_eq_true_eq] at hfl
  obtain ⟨hfl, hfin⟩ := hfl
  have hCl := hO.2.2.1 (e1 / 64) h9
  obtain ⟨hin9, hcl9, hty9, hnm9, hinst9, hini9, -⟩ := hCl
  obtain ⟨ha2, haz⟩ := hRel.2.2.1.obj hsh (by omega)
  have hat := gws_at (b0 := b0) (b := b) (G := G) ha2 haz
  rw [gcell_obj hsh (by omega)] at hat
  have hws := gws_I (b0 := b0) (b := b) (G := G) (σ := σ) (a := a) (x := e1 / 64) (k := e1 % 64) (v := x) ha2 hsh (by omega) hkn hty
  have a1 : a ≠ 1 := fun q => by rw [q] at ha2; exact absurd ha2 (by decide)
  have kk : ∀ (H1 : Heap) (locs1 : List Loc), va_P D vwCl ((gws b0 b G σ).set (a - 2) (b + (a - 2), .inr (e1 / 64, (gfs b0 b σ (e1 / 64) a).set (e1 % 64) (gv b0 b (.int x))))) H1 → va_S (gA b) s.heap H1 locs1 → H1.size = H.size → W p l e R s m args below meth c H1 locs1 cells slots (MQ below (gQc b0 b D G L Q) args s R.cells R.slots (gA b)) (F0 m (pc + 3) lsR (r.map (gv b0 b))) := by
    intro H1 locs1 hP1 hS1 hz1
    refine hk y l p e R s m args below meth c b0 b D G L H1 locs1 cells slots lsR (pc + 3) hy rfl hC0 ⟨⟨?_, by rw [hz1]; exact hRel.2.1, hRel.2.2.1, ?_⟩, hS1, hLV, hcl, hsl⟩ (gpc_nx hnx)
    · rw [hws]
      exact hP1
    · have hX := hRel.2.2.2
      have e2 : git (gsI σ a (e1 % 64) x) 1 = git σ 1 := by
        first | exact git_I (fun q => a1 q.symm) | rfl
      rw [e2]
      exact gX_kept hb0 hbs hS hS1 hX
  show W p l e R s m args below meth c H locs cells slots _ (F0 m pc lsR (gv b0 b (.int x) :: gv b0 b (.ref a) :: r.map (gv b0 b)))
  rw [gv_2 ha2]
  have hnar : narrow (gty (e1 / 64) (e1 % 64)) (.int x) = .int x := by rw [hty]; rfl
  have hfit : fits (gty (e1 / 64) (e1 % 64)) (.int x) = true := by rw [hty]; rfl
  have hd9 := hty9 (e1 % 64) hkn
  rcases hfin with hfin | ⟨hini, hdecl⟩
  · exact gput hx hb hts hin9 (gty (e1 / 64)) hty9 hnm9 hown hK hRel.1 gD hS (a - 2) hat hcl9 (e1 % 64) hkn (hts _ (gw_mem hfl)) (Or.inl hfin) hd9 hnar hfit (by rw [gfs_len]; exact hkn) hdg (fun H1 locs1 hP1 hS1 hz => kk H1 locs1 hP1 hS1 hz)
  · exact gput hx hb hts hin9 (gty (e1 / 64)) hty9 hnm9 hown hK hRel.1 gD hS (a - 2) hat hcl9 (e1 % 64) hkn (hts _ (gw_mem hfl)) (Or.inr ⟨hin hini, hdecl⟩) hd9 hnar hfit (by rw [gfs_len]; exact hkn) hdg (fun H1 locs1 hP1 hS1 hz => kk H1 locs1 hP1 hS1 hz)
set_option maxHeartbeats 1000000 in
theorem g_putL {M : gT} {N : gN} {nM : Nat} (hO : gOK M N nM) (e1 : Nat) : gGoal M N nM (.dstore e1) := by
  intro y l p e R s m args below meth c b0 b D G L H locs cells slots lsR pc d mc ms i ls st σ Q hq hy hc hC hA hpc
  obtain ⟨len, re, pl, hdg, hcor⟩ := hO.at hy hc hpc
  have hC0 := hC
  have hA0 := hA
  obtain ⟨hx, hb, hml, hown, hts, hEx, hr, hlk, hin, hK, hb0, hbs, hdf, hdl⟩ := hC
  obtain ⟨hRel, hS, hLV, hcl, hsl⟩ := hA
  simp only [gcor, Bool.and_eq_true, Bool.or_eq_true, decide_eq_true_eq, Bool.not_eq_true'] at hcor
  simp only [gstq, gi2, gl2] at hq
  obtain ⟨x, a, r, rfl, hsh, hk⟩ := hq
  obtain ⟨⟨hnx, hfl⟩, hty⟩ := hcor
  simp only [gfl, Bool.and_eq_true, Bool.or_eq_true, decide_eq_true_eq] at hfl
  obtain ⟨⟨⟨h9, hkn⟩, rfl⟩, hfl⟩ := hfl
  cases re <;> first | (exact absurd hfl Bool.false_ne_true) | skip
  simp only [Bool.and_eq_true, Bool.or_eq_true, decide_eq_true_eq] at hfl
  obtain ⟨hfl, hfin⟩ := hfl
  have hCl := hO.2.2.1 (e1 / 64) h9
  obtain ⟨hin9, hcl9, hty9, hnm9, hinst9, hini9, -⟩ := hCl
  obtain ⟨ha2, haz⟩ := hRel.2.2.1.obj hsh (by omega)
  have hat := gws_at (b0 := b0) (b := b) (G := G) ha2 haz
  rw [gcell_obj hsh (by omega)] at hat
  have hws := gws_L (b0 := b0) (b := b) (G := G) (σ := σ) (a := a) (x := e1 / 64) (k := e1 % 64) (v := x) ha2 hsh (by omega) hkn hty
  have a1 : a ≠ 1 := fun q => by rw [q] at ha2; exact absurd ha2 (by decide)
  have kk : ∀ (H1 : Heap) (locs1 : List Loc), va_P D vwCl ((gws b0 b G σ).set (a - 2) (b + (a - 2), .inr (e1 / 64, (gfs b0 b σ (e1 / 64) a).set (e1 % 64) (gv b0 b (.long x))))) H1 → va_S (gA b) s.heap H1 locs1 → H1.size = H.size → W p l e R s m args below meth c H1 locs1 cells slots (MQ below (gQc b0 b D G L Q) args s R.cells R.slots (gA b)) (F0 m (pc + 3) lsR (r.map (gv b0 b))) := by
    intro H1 locs1 hP1 hS1 hz1
    refine hk y l p e R s m args below meth c b0 b D G L H1 locs1 cells slots lsR (pc + 3) hy rfl hC0 ⟨⟨?_, by rw [hz1]; exact hRel.2.1, hRel.2.2.1, ?_⟩, hS1, hLV, hcl, hsl⟩ (gpc_nx hnx)
    · rw [hws]
      exact hP1
    · have hX := hRel.2.2.2
      have e2 : git (gsL σ a (e1 % 64) x) 1 = git σ 1 := by
        first | exact git_I (fun q => a1 q.symm) | rfl
      rw [e2]
      exact gX_kept hb0 hbs hS hS1 hX
  show W p l e R s m args below meth c H locs cells slots _ (F0 m pc lsR (gv b0 b (.long x) :: gv b0 b (.ref a) :: r.map (gv b0 b)))
  rw [gv_2 ha2]
  have hnar : narrow (gty (e1 / 64) (e1 % 64)) (.long x) = .long x := by rw [hty]; rfl
  have hfit : fits (gty (e1 / 64) (e1 % 64)) (.long x) = true := by rw [hty]; rfl
  have hd9 := hty9 (e1 % 64) hkn
  rcases hfin with hfin | ⟨hini, hdecl⟩
  · exact gput hx hb hts hin9 (gty (e1 / 64)) hty9 hnm9 hown hK hRel.1 gD hS (a - 2) hat hcl9 (e1 % 64) hkn (hts _ (gw_mem hfl)) (Or.inl hfin) hd9 hnar hfit (by rw [gfs_len]; exact hkn) hdg (fun H1 locs1 hP1 hS1 hz => kk H1 locs1 hP1 hS1 hz)
  · exact gput hx hb hts hin9 (gty (e1 / 64)) hty9 hnm9 hown hK hRel.1 gD hS (a - 2) hat hcl9 (e1 % 64) hkn (hts _ (gw_mem hfl)) (Or.inr ⟨hin hini, hdecl⟩) hd9 hnar hfit (by rw [gfs_len]; exact hkn) hdg (fun H1 locs1 hP1 hS1 hz => kk H1 locs1 hP1 hS1 hz)
set_option maxHeartbeats 1000000 in
theorem g_putR {M : gT} {N : gN} {nM : Nat} (hO : gOK M N nM) (e1 : Nat) : gGoal M N nM (.putstatic e1) := by
  intro y l p e R s m args below meth c b0 b D G L H locs cells slots lsR pc d mc ms i ls st σ Q hq hy hc hC hA hpc
  obtain ⟨len, re, pl, hdg, hcor⟩ := hO.at hy hc hpc
  have hC0 := hC
  have hA0 := hA
  obtain ⟨hx, hb, hml, hown, hts, hEx, hr, hlk, hin, hK, hb0, hbs, hdf, hdl⟩ := hC
  obtain ⟨hRel, hS, hLV, hcl, hsl⟩ := hA
  simp only [gcor, Bool.and_eq_true, Bool.or_eq_true, decide_eq_true_eq, Bool.not_eq_true'] at hcor
  simp only [gstq, gi2, gl2] at hq
  obtain ⟨x, a, r, rfl, hsh, hk⟩ := hq
  obtain ⟨⟨hnx, hfl⟩, hty⟩ := hcor
  simp only [gfl, Bool.and_eq_true, Bool.or_eq_true, decide_eq_true_eq] at hfl
  obtain ⟨⟨⟨h9, hkn⟩, rfl⟩, hfl⟩ := hfl
  cases re <;> first | (exact absurd hfl Bool.false_ne_true) | skip
  simp only [Bool.and_eq_true, Bool.or_eq_true, decide_eq_true_eq] at hfl
  obtain ⟨hfl, hfin⟩ := hfl
  have hCl := hO.2.2.1 (e1 / 64) h9
  obtain ⟨hin9, hcl9, hty9, hnm9, hinst9, hini9, -⟩ := hCl
  obtain ⟨ha2, haz⟩ := hRel.2.2.1.obj hsh (by omega)
  have hat := gws_at (b0 := b0) (b := b) (G := G) ha2 haz
  rw [gcell_obj hsh (by omega)] at hat
  have hws := gws_R (b0 := b0) (b := b) (G := G) (σ := σ) (a := a) (x := e1 / 64) (k := e1 % 64) (v := x) ha2 hsh (by omega) hkn hty
  have a1 : a ≠ 1 := fun q => by rw [q] at ha2; exact absurd ha2 (by decide)
  have kk : ∀ (H1 : Heap) (locs1 : List Loc), va_P D vwCl ((gws b0 b G σ).set (a - 2) (b + (a - 2), .inr (e1 / 64, (gfs b0 b σ (e1 / 64) a).set (e1 % 64) (gv b0 b (.ref x))))) H1 → va_S (gA b) s.heap H1 locs1 → H1.size = H.size → W p l e R s m args below meth c H1 locs1 cells slots (MQ below (gQc b0 b D G L Q) args s R.cells R.slots (gA b)) (F0 m (pc + 3) lsR (r.map (gv b0 b))) := by
    intro H1 locs1 hP1 hS1 hz1
    refine hk y l p e R s m args below meth c b0 b D G L H1 locs1 cells slots lsR (pc + 3) hy rfl hC0 ⟨⟨?_, by rw [hz1]; exact hRel.2.1, hRel.2.2.1, ?_⟩, hS1, hLV, hcl, hsl⟩ (gpc_nx hnx)
    · rw [hws]
      exact hP1
    · have hX := hRel.2.2.2
      have e2 : git (gsR σ a (e1 % 64) x) 1 = git σ 1 := by
        first | exact git_I (fun q => a1 q.symm) | rfl
      rw [e2]
      exact gX_kept hb0 hbs hS hS1 hX
  show W p l e R s m args below meth c H locs cells slots _ (F0 m pc lsR (gv b0 b (.ref x) :: gv b0 b (.ref a) :: r.map (gv b0 b)))
  rw [gv_2 ha2]
  have hnar : narrow (gty (e1 / 64) (e1 % 64)) (gv b0 b (.ref x)) = gv b0 b (.ref x) := by
    cases hq2 : gty (e1 / 64) (e1 % 64) <;> rw [hq2] at hty <;> first | (exact absurd hty Bool.false_ne_true) | (show narrow _ (va_rf (gm b0 b x)) = va_rf (gm b0 b x); cases gm b0 b x <;> rfl)
  have hfit : fits (gty (e1 / 64) (e1 % 64)) (gv b0 b (.ref x)) = true := by
    cases hq2 : gty (e1 / 64) (e1 % 64) <;> rw [hq2] at hty <;> first | (exact absurd hty Bool.false_ne_true) | (show fits _ (va_rf (gm b0 b x)) = true; cases gm b0 b x <;> rfl)
  have hd9 := hty9 (e1 % 64) hkn
  rcases hfin with hfin | ⟨hini, hdecl⟩
  · exact gput hx hb hts hin9 (gty (e1 / 64)) hty9 hnm9 hown hK hRel.1 gD hS (a - 2) hat hcl9 (e1 % 64) hkn (hts _ (gw_mem hfl)) (Or.inl hfin) hd9 hnar hfit (by rw [gfs_len]; exact hkn) hdg (fun H1 locs1 hP1 hS1 hz => kk H1 locs1 hP1 hS1 hz)
  · exact gput hx hb hts hin9 (gty (e1 / 64)) hty9 hnm9 hown hK hRel.1 gD hS (a - 2) hat hcl9 (e1 % 64) hkn (hts _ (gw_mem hfl)) (Or.inr ⟨hin hini, hdecl⟩) hd9 hnar hfit (by rw [gfs_len]; exact hkn) hdg (fun H1 locs1 hP1 hS1 hz => kk H1 locs1 hP1 hS1 hz)
set_option maxHeartbeats 1000000 in
theorem g_iaload {M : gT} {N : gN} {nM : Nat} (hO : gOK M N nM) : gGoal M N nM (.iaload) := by
  intro y l p e R s m args below meth c b0 b D G L H locs cells slots lsR pc d mc ms i ls st σ Q hq hy hc hC hA hpc
  obtain ⟨len, re, pl, hdg, hcor⟩ := hO.at hy hc hpc
  have hC0 := hC
  have hA0 := hA
  obtain ⟨hx, hb, hml, hown, hts, hEx, hr, hlk, hin, hK, hb0, hbs, hdf, hdl⟩ := hC
  obtain ⟨hRel, hS, hLV, hcl, hsl⟩ := hA
  simp only [gcor, Bool.and_eq_true, Bool.or_eq_true, decide_eq_true_eq, Bool.not_eq_true'] at hcor
  simp only [gstq, gi2, gl2] at hq
  obtain ⟨j, a, r, n, rfl, hsh, hvi, hk⟩ := hq
  obtain ⟨⟨hnx, rfl⟩, rfl⟩ := hcor
  obtain ⟨hne0, haz⟩ := hRel.2.2.1.lo hsh (by omega)
  have key := hk y l p e R s m args below meth c b0 b D G L H locs cells slots lsR (pc + 1) hy rfl hC0 hA0 (gpc_nx hnx)
  by_cases ha1 : a = 1
  · subst ha1
    obtain ⟨scr, x1, x2, x3, x4, x5⟩ := hRel.2.2.2
    have hn : n = L := by
      have := hRel.2.2.1.2
      omega
    subst hn
    have hlt : j.toNatClampNeg < n := Nat.not_le.mp fun q => hvi (Or.inr q)
    exact W.iald hx hb x1 x2 x3 (by rw [x4]; exact hvi) (x5 _ hlt) rfl rfl hdg key
  · have ha2 : 2 ≤ a := g2le hne0 ha1
    have hat := gws_at (b0 := b0) (b := b) (G := G) ha2 haz
    rw [gcell_arr (k := 0) (n := n) hsh (by omega)] at hat
    show W p l e R s m args below meth c H locs cells slots _ (F0 m pc lsR (.int j :: gv b0 b (.ref a) :: r.map (gv b0 b)))
    rw [gv_2 ha2]
    exact va_iald hx hb hK hRel.1 (a - 2) 0 hat rfl hvi hdg key
set_option maxHeartbeats 1000000 in
theorem g_baload {M : gT} {N : gN} {nM : Nat} (hO : gOK M N nM) : gGoal M N nM (.baload) := by
  intro y l p e R s m args below meth c b0 b D G L H locs cells slots lsR pc d mc ms i ls st σ Q hq hy hc hC hA hpc
  obtain ⟨len, re, pl, hdg, hcor⟩ := hO.at hy hc hpc
  have hC0 := hC
  have hA0 := hA
  obtain ⟨hx, hb, hml, hown, hts, hEx, hr, hlk, hin, hK, hb0, hbs, hdf, hdl⟩ := hC
  obtain ⟨hRel, hS, hLV, hcl, hsl⟩ := hA
  simp only [gcor, Bool.and_eq_true, Bool.or_eq_true, decide_eq_true_eq, Bool.not_eq_true'] at hcor
  simp only [gstq, gi2, gl2] at hq
  obtain ⟨j, a, r, n, rfl, hsh, hvi, hk⟩ := hq
  obtain ⟨⟨hnx, rfl⟩, rfl⟩ := hcor
  obtain ⟨hne0, haz⟩ := hRel.2.2.1.lo hsh (by omega)
  have key := hk y l p e R s m args below meth c b0 b D G L H locs cells slots lsR (pc + 1) hy rfl hC0 hA0 (gpc_nx hnx)
  have ha2 : 2 ≤ a := g2le hne0 (gnle (k := 1) hRel.2.2.1 (by decide) hsh)
  have hat := gws_at (b0 := b0) (b := b) (G := G) ha2 haz
  rw [gcell_arr (k := 1) (n := n) hsh (by omega)] at hat
  show W p l e R s m args below meth c H locs cells slots _ (F0 m pc lsR (.int j :: gv b0 b (.ref a) :: r.map (gv b0 b)))
  rw [gv_2 ha2]
  exact va_zald hx hb hK hRel.1 (a - 2) 1 hat rfl hvi hdg key
set_option maxHeartbeats 1000000 in
theorem g_aaload {M : gT} {N : gN} {nM : Nat} (hO : gOK M N nM) : gGoal M N nM (.aaload) := by
  intro y l p e R s m args below meth c b0 b D G L H locs cells slots lsR pc d mc ms i ls st σ Q hq hy hc hC hA hpc
  obtain ⟨len, re, pl, hdg, hcor⟩ := hO.at hy hc hpc
  have hC0 := hC
  have hA0 := hA
  obtain ⟨hx, hb, hml, hown, hts, hEx, hr, hlk, hin, hK, hb0, hbs, hdf, hdl⟩ := hC
  obtain ⟨hRel, hS, hLV, hcl, hsl⟩ := hA
  simp only [gcor, Bool.and_eq_true, Bool.or_eq_true, decide_eq_true_eq, Bool.not_eq_true'] at hcor
  simp only [gstq, gi2, gl2] at hq
  obtain ⟨j, a, r, n, rfl, hsh, hvi, hk⟩ := hq
  obtain ⟨⟨hnx, rfl⟩, rfl⟩ := hcor
  obtain ⟨hne0, haz⟩ := hRel.2.2.1.lo hsh (by omega)
  have key := hk y l p e R s m args below meth c b0 b D G L H locs cells slots lsR (pc + 1) hy rfl hC0 hA0 (gpc_nx hnx)
  have ha2 : 2 ≤ a := g2le hne0 (gnle (k := 2) hRel.2.2.1 (by decide) hsh)
  have hat := gws_at (b0 := b0) (b := b) (G := G) ha2 haz
  rw [gcell_arr (k := 2) (n := n) hsh (by omega)] at hat
  show W p l e R s m args below meth c H locs cells slots _ (F0 m pc lsR (.int j :: gv b0 b (.ref a) :: r.map (gv b0 b)))
  rw [gv_2 ha2]
  exact va_aldq hx hb hK hRel.1 (a - 2) 2 hat rfl hvi hdg key
set_option maxHeartbeats 1000000 in
theorem g_iastore {M : gT} {N : gN} {nM : Nat} (hO : gOK M N nM) : gGoal M N nM (.iastore) := by
  intro y l p e R s m args below meth c b0 b D G L H locs cells slots lsR pc d mc ms i ls st σ Q hq hy hc hC hA hpc
  obtain ⟨len, re, pl, hdg, hcor⟩ := hO.at hy hc hpc
  have hC0 := hC
  have hA0 := hA
  obtain ⟨hx, hb, hml, hown, hts, hEx, hr, hlk, hin, hK, hb0, hbs, hdf, hdl⟩ := hC
  obtain ⟨hRel, hS, hLV, hcl, hsl⟩ := hA
  simp only [gcor, Bool.and_eq_true, Bool.or_eq_true, decide_eq_true_eq, Bool.not_eq_true'] at hcor
  simp only [gstq, gi2, gl2] at hq
  obtain ⟨x, j, a, r, n, rfl, hsh, hne1, hvi, hk⟩ := hq
  obtain ⟨⟨hnx, rfl⟩, rfl⟩ := hcor
  obtain ⟨hne0, haz⟩ := hRel.2.2.1.lo hsh (by omega)
  have a1 : a ≠ 1 := hne1
  have ha2 : 2 ≤ a := g2le hne0 a1
  have hat := gws_at (b0 := b0) (b := b) (G := G) ha2 haz
  rw [gcell_arr (k := 0) (n := n) hsh (by omega)] at hat
  have hws := gws_A0 (b0 := b0) (b := b) (G := G) (σ := σ) (a := a) (n := n) (j := j.toNatClampNeg) (v := x) ha2 hsh
  show W p l e R s m args below meth c H locs cells slots _ (F0 m pc lsR (gv b0 b (.int x) :: .int j :: gv b0 b (.ref a) :: r.map (gv b0 b)))
  rw [gv_2 ha2]
  refine giast hx hb hK hRel.1 gD hS (a - 2) 0 hat rfl hvi hdg (fun H1 locs1 hP1 hS1 hz1 => ?_)
  refine hk y l p e R s m args below meth c b0 b D G L H1 locs1 cells slots lsR (pc + 1) hy rfl hC0 ⟨⟨?_, by rw [hz1]; exact hRel.2.1, hRel.2.2.1, ?_⟩, hS1, hLV, hcl, hsl⟩ (gpc_nx hnx)
  · rw [hws]
    exact hP1
  · have hX := hRel.2.2.2
    have e2 : git (gsI σ a j.toNatClampNeg x) 1 = git σ 1 := by
      first | exact git_I (fun q => a1 q.symm) | rfl
    rw [e2]
    exact gX_kept hb0 hbs hS hS1 hX
set_option maxHeartbeats 1000000 in
theorem g_bastore {M : gT} {N : gN} {nM : Nat} (hO : gOK M N nM) : gGoal M N nM (.bastore) := by
  intro y l p e R s m args below meth c b0 b D G L H locs cells slots lsR pc d mc ms i ls st σ Q hq hy hc hC hA hpc
  obtain ⟨len, re, pl, hdg, hcor⟩ := hO.at hy hc hpc
  have hC0 := hC
  have hA0 := hA
  obtain ⟨hx, hb, hml, hown, hts, hEx, hr, hlk, hin, hK, hb0, hbs, hdf, hdl⟩ := hC
  obtain ⟨hRel, hS, hLV, hcl, hsl⟩ := hA
  simp only [gcor, Bool.and_eq_true, Bool.or_eq_true, decide_eq_true_eq, Bool.not_eq_true'] at hcor
  simp only [gstq, gi2, gl2] at hq
  obtain ⟨x, j, a, r, n, rfl, hsh, hx01, hvi, hk⟩ := hq
  obtain ⟨⟨hnx, rfl⟩, rfl⟩ := hcor
  obtain ⟨hne0, haz⟩ := hRel.2.2.1.lo hsh (by omega)
  have a1 : a ≠ 1 := gnle (k := 1) hRel.2.2.1 (by decide) hsh
  have ha2 : 2 ≤ a := g2le hne0 a1
  have hat := gws_at (b0 := b0) (b := b) (G := G) ha2 haz
  rw [gcell_arr (k := 1) (n := n) hsh (by omega)] at hat
  have hws := gws_A1 (b0 := b0) (b := b) (G := G) (σ := σ) (a := a) (n := n) (j := j.toNatClampNeg) (v := x) ha2 hsh
  show W p l e R s m args below meth c H locs cells slots _ (F0 m pc lsR (gv b0 b (.int x) :: .int j :: gv b0 b (.ref a) :: r.map (gv b0 b)))
  rw [gv_2 ha2]
  refine gzast hx hb hK hRel.1 gD hS (a - 2) 1 hat rfl hx01 hvi hdg (fun H1 locs1 hP1 hS1 hz1 => ?_)
  refine hk y l p e R s m args below meth c b0 b D G L H1 locs1 cells slots lsR (pc + 1) hy rfl hC0 ⟨⟨?_, by rw [hz1]; exact hRel.2.1, hRel.2.2.1, ?_⟩, hS1, hLV, hcl, hsl⟩ (gpc_nx hnx)
  · rw [hws]
    exact hP1
  · have hX := hRel.2.2.2
    have e2 : git (gsI σ a j.toNatClampNeg x) 1 = git σ 1 := by
      first | exact git_I (fun q => a1 q.symm) | rfl
    rw [e2]
    exact gX_kept hb0 hbs hS hS1 hX
set_option maxHeartbeats 1000000 in
theorem g_aastore {M : gT} {N : gN} {nM : Nat} (hO : gOK M N nM) : gGoal M N nM (.aastore) := by
  intro y l p e R s m args below meth c b0 b D G L H locs cells slots lsR pc d mc ms i ls st σ Q hq hy hc hC hA hpc
  obtain ⟨len, re, pl, hdg, hcor⟩ := hO.at hy hc hpc
  have hC0 := hC
  have hA0 := hA
  obtain ⟨hx, hb, hml, hown, hts, hEx, hr, hlk, hin, hK, hb0, hbs, hdf, hdl⟩ := hC
  obtain ⟨hRel, hS, hLV, hcl, hsl⟩ := hA
  simp only [gcor, Bool.and_eq_true, Bool.or_eq_true, decide_eq_true_eq, Bool.not_eq_true'] at hcor
  simp only [gstq, gi2, gl2] at hq
  obtain ⟨x, j, a, r, n, rfl, hsh, hshx, hvi, hk⟩ := hq
  obtain ⟨⟨hnx, rfl⟩, rfl⟩ := hcor
  obtain ⟨hne0, haz⟩ := hRel.2.2.1.lo hsh (by omega)
  have a1 : a ≠ 1 := gnle (k := 2) hRel.2.2.1 (by decide) hsh
  have ha2 : 2 ≤ a := g2le hne0 a1
  have hat := gws_at (b0 := b0) (b := b) (G := G) ha2 haz
  rw [gcell_arr (k := 2) (n := n) hsh (by omega)] at hat
  have hws := gws_A2 (b0 := b0) (b := b) (G := G) (σ := σ) (a := a) (n := n) (j := j.toNatClampNeg) (v := x) ha2 hsh
  show W p l e R s m args below meth c H locs cells slots _ (F0 m pc lsR (gv b0 b (.ref x) :: .int j :: gv b0 b (.ref a) :: r.map (gv b0 b)))
  rw [gv_2 ha2]
  obtain ⟨hx2, hxz⟩ := hRel.2.2.1.obj hshx (by omega)
  have hatx := gws_at (b0 := b0) (b := b) (G := G) hx2 hxz
  rw [gcell_obj hshx (by omega)] at hatx
  rw [gm_2 hx2] at hws
  rw [gv_2 hx2]
  refine gaast hx hb hK hRel.1 gD hS (a - 2) 2 (x - 2) 4 (r := (RX4, TX4, 8)) hat rfl hatx rfl hvi hdg (fun H1 locs1 hP1 hS1 hz1 => ?_)
  refine hk y l p e R s m args below meth c b0 b D G L H1 locs1 cells slots lsR (pc + 1) hy rfl hC0 ⟨⟨?_, by rw [hz1]; exact hRel.2.1, hRel.2.2.1, ?_⟩, hS1, hLV, hcl, hsl⟩ (gpc_nx hnx)
  · rw [hws]
    exact hP1
  · have hX := hRel.2.2.2
    have e2 : git (gsR σ a j.toNatClampNeg x) 1 = git σ 1 := by
      first | exact git_I (fun q => a1 q.symm) | rfl
    rw [e2]
    exact gX_kept hb0 hbs hS hS1 hX
set_option maxHeartbeats 1000000 in
theorem g_alen {M : gT} {N : gN} {nM : Nat} (hO : gOK M N nM) : gGoal M N nM (.arraylength) := by
  intro y l p e R s m args below meth c b0 b D G L H locs cells slots lsR pc d mc ms i ls st σ Q hq hy hc hC hA hpc
  obtain ⟨len, re, pl, hdg, hcor⟩ := hO.at hy hc hpc
  have hC0 := hC
  have hA0 := hA
  obtain ⟨hx, hb, hml, hown, hts, hEx, hr, hlk, hin, hK, hb0, hbs, hdf, hdl⟩ := hC
  obtain ⟨hRel, hS, hLV, hcl, hsl⟩ := hA
  simp only [gcor, Bool.and_eq_true, Bool.or_eq_true, decide_eq_true_eq, Bool.not_eq_true'] at hcor
  simp only [gstq, gi2, gl2] at hq
  obtain ⟨a, r, n, k, rfl, hsh, hk3, hk⟩ := hq
  obtain ⟨⟨hnx, rfl⟩, rfl⟩ := hcor
  obtain ⟨hne0, haz⟩ := hRel.2.2.1.lo hsh (by omega)
  have key := hk y l p e R s m args below meth c b0 b D G L H locs cells slots lsR (pc + 1) hy rfl hC0 hA0 (gpc_nx hnx)
  by_cases ha1 : a = 1
  · subst ha1
    obtain ⟨scr, x1, x2, x3, x4, x5⟩ := hRel.2.2.2
    have hn : n = L := by
      have := hRel.2.2.1.2
      omega
    subst hn
    exact W.alen hx hb x1 x2 (by rw [x4]) rfl rfl hdg key
  · have ha2 : 2 ≤ a := g2le hne0 ha1
    have hat := gws_at (b0 := b0) (b := b) (G := G) ha2 haz
    rw [gcell_arr (k := k) (n := n) hsh hk3] at hat
    show W p l e R s m args below meth c H locs cells slots _ (F0 m pc lsR (gv b0 b (.ref a) :: r.map (gv b0 b)))
    rw [gv_2 ha2]
    match k, hk3, hat with
    | 0, _, hat => exact va_alen hx hb hK hRel.1 (a - 2) 0 hat rfl rfl hdg key
    | 1, _, hat => exact va_alen hx hb hK hRel.1 (a - 2) 1 hat rfl rfl hdg key
    | 2, _, hat => exact va_alen hx hb hK hRel.1 (a - 2) 2 hat rfl rfl hdg key
set_option maxHeartbeats 1000000 in
theorem g_iret {M : gT} {N : gN} {nM : Nat} (hO : gOK M N nM) : gGoal M N nM (.ireturn) := by
  intro y l p e R s m args below meth c b0 b D G L H locs cells slots lsR pc d mc ms i ls st σ Q hq hy hc hC hA hpc
  obtain ⟨len, re, pl, hdg, hcor⟩ := hO.at hy hc hpc
  have hC0 := hC
  have hA0 := hA
  obtain ⟨hx, hb, hml, hown, hts, hEx, hr, hlk, hin, hK, hb0, hbs, hdf, hdl⟩ := hC
  obtain ⟨hRel, hS, hLV, hcl, hsl⟩ := hA
  simp only [gcor, Bool.and_eq_true, Bool.or_eq_true, decide_eq_true_eq, Bool.not_eq_true'] at hcor
  simp only [gstq, gi2, gl2] at hq
  obtain ⟨x, rfl, hQ⟩ := hq
  obtain ⟨⟨rfl, rfl⟩, hret⟩ := hcor
  rw [hret] at hr
  refine W.widen (k := R.cells) (n := R.slots) (by omega) (by omega) ?_
  exact W.iret (v := x) hx hb hr (fun t ht hW => ⟨some (.int x), σ, hQ, rfl, by rw [ht]; exact hRel.moved hW.alike, hS.F ht⟩) hS.2.2 hdg hlk
set_option maxHeartbeats 1000000 in
theorem g_zret {M : gT} {N : gN} {nM : Nat} (hO : gOK M N nM) : gGoal M N nM (.freturn) := by
  intro y l p e R s m args below meth c b0 b D G L H locs cells slots lsR pc d mc ms i ls st σ Q hq hy hc hC hA hpc
  obtain ⟨len, re, pl, hdg, hcor⟩ := hO.at hy hc hpc
  have hC0 := hC
  have hA0 := hA
  obtain ⟨hx, hb, hml, hown, hts, hEx, hr, hlk, hin, hK, hb0, hbs, hdf, hdl⟩ := hC
  obtain ⟨hRel, hS, hLV, hcl, hsl⟩ := hA
  simp only [gcor, Bool.and_eq_true, Bool.or_eq_true, decide_eq_true_eq, Bool.not_eq_true'] at hcor
  simp only [gstq, gi2, gl2] at hq
  obtain ⟨x, rfl, h01, hQ⟩ := hq
  obtain ⟨⟨rfl, rfl⟩, hret⟩ := hcor
  rw [hret] at hr
  refine W.widen (k := R.cells) (n := R.slots) (by omega) (by omega) ?_
  exact W.zret (v := x) hx hb hr (by rcases h01 with rfl | rfl <;> decide +kernel) (fun t ht hW => ⟨some (.int x), σ, hQ, rfl, by rw [ht]; exact hRel.moved hW.alike, hS.F ht⟩) hS.2.2 hdg hlk
set_option maxHeartbeats 1000000 in
theorem g_lret {M : gT} {N : gN} {nM : Nat} (hO : gOK M N nM) : gGoal M N nM (.lreturn) := by
  intro y l p e R s m args below meth c b0 b D G L H locs cells slots lsR pc d mc ms i ls st σ Q hq hy hc hC hA hpc
  obtain ⟨len, re, pl, hdg, hcor⟩ := hO.at hy hc hpc
  have hC0 := hC
  have hA0 := hA
  obtain ⟨hx, hb, hml, hown, hts, hEx, hr, hlk, hin, hK, hb0, hbs, hdf, hdl⟩ := hC
  obtain ⟨hRel, hS, hLV, hcl, hsl⟩ := hA
  simp only [gcor, Bool.and_eq_true, Bool.or_eq_true, decide_eq_true_eq, Bool.not_eq_true'] at hcor
  simp only [gstq, gi2, gl2] at hq
  obtain ⟨x, rfl, hQ⟩ := hq
  obtain ⟨⟨rfl, rfl⟩, hret⟩ := hcor
  rw [hret] at hr
  refine W.widen (k := R.cells) (n := R.slots) (by omega) (by omega) ?_
  exact W.lret (v := x) hx hb hr (fun t ht hW => ⟨some (.long x), σ, hQ, rfl, by rw [ht]; exact hRel.moved hW.alike, hS.F ht⟩) hS.2.2 hdg hlk
set_option maxHeartbeats 1000000 in
theorem g_vret {M : gT} {N : gN} {nM : Nat} (hO : gOK M N nM) : gGoal M N nM (.return_) := by
  intro y l p e R s m args below meth c b0 b D G L H locs cells slots lsR pc d mc ms i ls st σ Q hq hy hc hC hA hpc
  obtain ⟨len, re, pl, hdg, hcor⟩ := hO.at hy hc hpc
  have hC0 := hC
  have hA0 := hA
  obtain ⟨hx, hb, hml, hown, hts, hEx, hr, hlk, hin, hK, hb0, hbs, hdf, hdl⟩ := hC
  obtain ⟨hRel, hS, hLV, hcl, hsl⟩ := hA
  simp only [gcor, Bool.and_eq_true, Bool.or_eq_true, decide_eq_true_eq, Bool.not_eq_true'] at hcor
  simp only [gstq, gi2, gl2] at hq
  obtain ⟨rfl, hQ⟩ := hq
  obtain ⟨⟨rfl, rfl⟩, hret⟩ := hcor
  rw [hret] at hr
  refine W.widen (k := R.cells) (n := R.slots) (by omega) (by omega) ?_
  exact W.vret hx hb hr (fun t ht hW => ⟨none, σ, hQ, rfl, by rw [ht]; exact hRel.moved hW.alike, hS.F ht⟩) hS.2.2 hdg hlk
end
section
/-! MAKING, SWITCHES, CALLS; the whole -/
theorem gRel.new {b0 b : Nat} {D : va_G} {G : gG3} {L : Nat} {σ : gS} {s : State} {H H1 : Heap} {x : Nat} {e : va_E} (hb0 : b0 < b) (hRel : gRel b0 b D G L σ s H) (z1 : H1.size = H.size + 1) (o1 : ∀ q, q < H.size → H1[q]? = H[q]?) (he : gcell b0 b G (gnw σ x) (gsz σ + 2) = e) (hat : va_at D vwCl (H.size, e) H1) : gRel b0 b D G L (gnw σ x) s H1 := by
  refine ⟨?_, ?_, hRel.2.2.1.new, ?_⟩
  · rw [gws_new]
    refine va_P.app (hRel.1.kept (fun k q hq => o1 q.1 ((hRel.1 k q hq).lt))) (fun k q hq => ?_)
    have hz : k < 1 := (List.getElem?_eq_some_iff.mp hq).1
    rw [show k = 0 by omega] at hq
    cases hq
    rw [he, ← hRel.2.1]
    exact hat
  · rw [z1, hRel.2.1]
    rfl
  · have e2 : git (gnw σ x) 1 = git σ 1 := by
      funext j
      show (if 1 = σ.1.1 + 2 then (0 : Int32) else σ.2.2.1 1 j) = _
      rw [if_neg (by omega)]
      rfl
    rw [e2]
    exact hRel.2.2.2.kept (o1 b0 (by have := hRel.2.1; omega))
theorem gS_new {b : Nat} {s : State} {H H1 : Heap} {locs : List Loc} (hS : va_S (gA b) s.heap H locs) (z1 : H1.size = H.size + 1) (o1 : ∀ q, q < H.size → H1[q]? = H[q]?) : va_S (gA b) s.heap H1 locs :=
  ⟨Nat.le_trans hS.1 (by omega), fun x h1 h2 => (o1 x (Nat.lt_of_lt_of_le h1 hS.1)).trans (hS.2.1 x h1 h2), hS.2.2⟩
theorem gsh_new {σ : gS} {x : Nat} : gsh (gnw σ x) (gsz σ + 2) = x := by
  show (if gsz σ + 2 = σ.1.1 + 2 then x else _) = x
  exact if_pos rfl
theorem git_new {σ : gS} {x : Nat} : git (gnw σ x) (gsz σ + 2) = fun _ => 0 := by
  funext j
  show (if gsz σ + 2 = σ.1.1 + 2 then (0 : Int32) else _) = 0
  exact if_pos rfl
theorem glg_new {σ : gS} {x : Nat} : glg (gnw σ x) (gsz σ + 2) = fun _ => 0 := by
  funext j
  show (if gsz σ + 2 = σ.1.1 + 2 then (0 : Int64) else _) = 0
  exact if_pos rfl
theorem grf_new {σ : gS} {x : Nat} : grf (gnw σ x) (gsz σ + 2) = fun _ => 0 := by
  funext j
  show (if gsz σ + 2 = σ.1.1 + 2 then 0 else _) = 0
  exact if_pos rfl
set_option maxHeartbeats 1000000 in
theorem g_new {M : gT} {N : gN} {nM : Nat} (hO : gOK M N nM) (e1 : Nat) : gGoal M N nM (.new e1) := by
  intro y l p e R s m args below meth c b0 b D G L H locs cells slots lsR pc d mc ms i ls st σ Q hq hy hc hC hA hpc
  obtain ⟨len, re, pl, hdg, hcor⟩ := hO.at hy hc hpc
  have hC0 := hC
  have hA0 := hA
  obtain ⟨hx, hb, hml, hown, hts, hEx, hr, hlk, hin, hK, hb0, hbs, hdf, hdl⟩ := hC
  obtain ⟨hRel, hS, hLV, hcl, hsl⟩ := hA
  simp only [gcor, Bool.and_eq_true, Bool.or_eq_true, decide_eq_true_eq, Bool.not_eq_true'] at hcor
  simp only [gstq, gi2, gl2] at hq
  obtain ⟨hm1, hm2, hk⟩ := hq
  obtain ⟨⟨⟨⟨hnx, h9⟩, hnf⟩, rfl⟩, hcor⟩ := hcor
  cases re <;> first | (exact absurd hcor Bool.false_ne_true) | skip
  obtain ⟨hin9, hcl9, hty9, hnm9, hinst9, hini9, htys9⟩ := hO.2.2.1 (e1 / 64) h9
  rw [hnf] at hk hm2
  have hKn := hK.1 (e1 / 64) _ hcl9
  refine W.newcK hx hb hown (hts _ (gw_mem hcor)) (hts _ hinst9) (hts _ hini9) rfl hdg (by omega) (by omega) hKn.2.1 rfl fun H1 kC hkC e1' z1 o1 => ?_
  have hsz : H.size = b + gsz σ := hRel.2.1
  have key := hk y l p e R s m args below meth c b0 b D G L H1 locs (cells + 1) (slots + gnf (e1 / 64)) lsR (pc + 3) hy rfl hC0 ⟨gRel.new hb0 hRel z1 o1 (gcell_obj gsh_new (by omega)) ⟨_, hcl9, (u_born (gty (e1 / 64)) hts hin9 hKn hkC e1' hty9).to ?_⟩, gS_new hS z1 o1, hLV, by omega, by omega⟩ (gpc_nx hnx)
  · have hgv : gv b0 b (.ref (gsz σ + 2)) = .ref H.size := by
      rw [gv_2 (by omega), hsz]
      rfl
    have key : W p l e R s m args below meth c H1 locs (cells + 1) (slots + gnf (e1 / 64)) _ (F0 m (pc + 3) lsR (gv b0 b (.ref (gsz σ + 2)) :: st.map (gv b0 b))) := key
    rw [hgv] at key
    exact key
  · intro j hj
    have hj : j < gnf (e1 / 64) := hj
    show _ = ((gfs b0 b (gnw σ (e1 / 64)) (e1 / 64) (gsz σ + 2)).getD j .null)
    rw [List.getD_eq_getElem?_getD, gfs_get hj]
    show _ = gfv b0 b (gnw σ (e1 / 64)) (gty (e1 / 64) j) (gsz σ + 2) j
    rcases htys9 j hj with h | h | h
    · rw [h]
      show _ = Value.int (git _ _ _)
      rw [git_new]
      rfl
    · rw [h]
      show _ = Value.long (glg _ _ _)
      rw [glg_new]
      rfl
    · have hz : va_rf (gm b0 b (grf (gnw σ (e1 / 64)) (gsz σ + 2) j)) = .null := by
        rw [grf_new]
        rfl
      cases hq2 : gty (e1 / 64) j <;> rw [hq2] at h <;> first | (exact absurd h Bool.false_ne_true) | exact hz.symm
set_option maxHeartbeats 1000000 in
theorem g_newarray {M : gT} {N : gN} {nM : Nat} (hO : gOK M N nM) (t : ArrayType) : gGoal M N nM (.newarray t) := by
  intro y l p e R s m args below meth c b0 b D G L H locs cells slots lsR pc d mc ms i ls st σ Q hq hy hc hC hA hpc
  obtain ⟨len, re, pl, hdg, hcor⟩ := hO.at hy hc hpc
  have hC0 := hC
  have hA0 := hA
  obtain ⟨hx, hb, hml, hown, hts, hEx, hr, hlk, hin, hK, hb0, hbs, hdf, hdl⟩ := hC
  obtain ⟨hRel, hS, hLV, hcl, hsl⟩ := hA
  simp only [gcor, Bool.and_eq_true, Bool.or_eq_true, decide_eq_true_eq, Bool.not_eq_true'] at hcor
  simp only [gstq, gi2, gl2] at hq
  obtain ⟨n, r, K, rfl, rfl, hK1, hkd, hm1, hm2, hk⟩ := hq
  obtain ⟨⟨⟨hnx, rfl⟩, rfl⟩, ht⟩ := hcor
  have hN : (Int32.ofNat K).toNatClampNeg = K := nI_clamp (n := K) (by omega)
  have hn0 : ¬ Int32.ofNat K < 0 := nI_pos (n := K) (by omega)
  have hsz : H.size = b + gsz σ := hRel.2.1
  have hgv : gv b0 b (.ref (gsz σ + 2)) = .ref H.size := by
    rw [gv_2 (by omega), hsz]
    rfl
  obtain ⟨-, -, hai, haz⟩ := hO.2.2.2
  rcases ht with rfl | rfl
  · refine va_newaK (atype := .int) hx hb (hts _ hai) rfl hdg rfl hn0 hN (by show K * 4 ≤ _; omega) (by omega) (by omega) rfl fun H1 cA e1 z1 o1 hAr hNm => ?_
    have hcI : cA = G.1 := Option.some.inj (hNm.symm.trans (hK.2 0 _ rfl).2)
    subst hcI
    have key := hk y l p e R s m args below meth c b0 b D G L H1 locs (cells + 1) (slots + K) lsR (pc + 2) hy rfl hC0 ⟨gRel.new hb0 hRel z1 o1 (gcell_arr (k := 0) (n := K) gsh_new (by omega)) ?_, gS_new hS z1 o1, hLV, by omega, by omega⟩ (gpc_nx hnx)
    · have key : W p l e R s m args below meth c H1 locs (cells + 1) (slots + K) _ (F0 m (pc + 2) lsR (gv b0 b (.ref (gsz σ + 2)) :: r.map (gv b0 b))) := key
      rw [hgv] at key
      exact key
    · show H1[H.size]? = some (vp_cell G.1 (K, .inl (git _ _)))
      rw [git_new, e1]
      rfl
  · refine va_newaK (atype := .boolean) hx hb (hts _ haz) rfl hdg rfl hn0 hN (by show K * 1 ≤ _; omega) (by omega) (by omega) rfl fun H1 cA e1 z1 o1 hAr hNm => ?_
    have hcI : cA = G.2.1 := Option.some.inj (hNm.symm.trans (hK.2 1 _ rfl).2)
    subst hcI
    have key := hk y l p e R s m args below meth c b0 b D G L H1 locs (cells + 1) (slots + K) lsR (pc + 2) hy rfl hC0 ⟨gRel.new hb0 hRel z1 o1 (gcell_arr (k := 1) (n := K) gsh_new (by omega)) ?_, gS_new hS z1 o1, hLV, by omega, by omega⟩ (gpc_nx hnx)
    · have key : W p l e R s m args below meth c H1 locs (cells + 1) (slots + K) _ (F0 m (pc + 2) lsR (gv b0 b (.ref (gsz σ + 2)) :: r.map (gv b0 b))) := key
      rw [hgv] at key
      exact key
    · show H1[H.size]? = some (vp_cell G.2.1 (K, .inl (git _ _)))
      rw [git_new, e1]
      rfl
set_option maxHeartbeats 1000000 in
theorem g_anew {M : gT} {N : gN} {nM : Nat} (hO : gOK M N nM) (k1 : Nat) : gGoal M N nM (.anewarray k1) := by
  intro y l p e R s m args below meth c b0 b D G L H locs cells slots lsR pc d mc ms i ls st σ Q hq hy hc hC hA hpc
  obtain ⟨len, re, pl, hdg, hcor⟩ := hO.at hy hc hpc
  have hC0 := hC
  have hA0 := hA
  obtain ⟨hx, hb, hml, hown, hts, hEx, hr, hlk, hin, hK, hb0, hbs, hdf, hdl⟩ := hC
  obtain ⟨hRel, hS, hLV, hcl, hsl⟩ := hA
  simp only [gcor, Bool.and_eq_true, Bool.or_eq_true, decide_eq_true_eq, Bool.not_eq_true'] at hcor
  simp only [gstq, gi2, gl2] at hq
  obtain ⟨n, r, K, rfl, rfl, hK1, hm1, hm2, hk⟩ := hq
  obtain ⟨⟨hnx, rfl⟩, hcor⟩ := hcor
  cases re <;> first | (exact absurd hcor Bool.false_ne_true) | skip
  have hN : (Int32.ofNat K).toNatClampNeg = K := nI_clamp (n := K) (by omega)
  have hn0 : ¬ Int32.ofNat K < 0 := nI_pos (n := K) (by omega)
  have hsz : H.size = b + gsz σ := hRel.2.1
  have hgv : gv b0 b (.ref (gsz σ + 2)) = .ref H.size := by
    rw [gv_2 (by omega), hsz]
    rfl
  refine W.anew hx hb hown (hts _ (gw_mem hcor)) (va_AO.use hEx.2) rfl hdg rfl hn0 (by rw [hN]; omega) (by omega) (by rw [hN]; omega) fun cA kA comp f1 f2 f3 f4 => ?_
  rw [hN]
  obtain ⟨kA', comp', -, -, -, f1'⟩ := (hK.2 2 _ rfl).2
  have hcM : cA = G.2.2 := Option.some.inj (f1.symm.trans f1')
  subst hcM
  generalize hH1 : H.push ({ cls := G.2.2, slots := Array.replicate K .null, vm := .none } : Cell) = H1
  have z1 : H1.size = H.size + 1 := by rw [← hH1, Array.size_push]
  have e1 : H1[H.size]? = some (arrV G.2.2 K (fun _ => .null)) := by rw [← hH1, Array.getElem?_push_size, ← arrV_new]
  have o1 : ∀ q : Nat, q < H.size → H1[q]? = H[q]? := fun q hq => by rw [← hH1, Array.getElem?_push, if_neg (Nat.ne_of_lt hq)]
  have key := hk y l p e R s m args below meth c b0 b D G L H1 locs (cells + 1) (slots + K) lsR (pc + 3) hy rfl hC0 ⟨gRel.new hb0 hRel z1 o1 (gcell_arr (k := 2) (n := K) gsh_new (by omega)) ?_, gS_new hS z1 o1, hLV, by omega, by omega⟩ (gpc_nx hnx)
  · have key : W p l e R s m args below meth c H1 locs (cells + 1) (slots + K) _ (F0 m (pc + 3) lsR (gv b0 b (.ref (gsz σ + 2)) :: r.map (gv b0 b))) := key
    rw [hgv] at key
    exact key
  · show H1[H.size]? = some (vp_cell G.2.2 (K, .inr (.inr (.inr (.inr (fun j => gm b0 b (grf _ _ j)))))))
    rw [grf_new, e1]
    rfl
set_option maxHeartbeats 1000000 in
theorem g_objInit {M : gT} {N : gN} {nM : Nat} (hO : gOK M N nM) : gGoal M N nM (.monitorexit) := by
  intro y l p e R s m args below meth c b0 b D G L H locs cells slots lsR pc d mc ms i ls st σ Q hq hy hc hC hA hpc
  obtain ⟨len, re, pl, hdg, hcor⟩ := hO.at hy hc hpc
  have hC0 := hC
  have hA0 := hA
  obtain ⟨hx, hb, hml, hown, hts, hEx, hr, hlk, hin, hK, hb0, hbs, hdf, hdl⟩ := hC
  obtain ⟨hRel, hS, hLV, hcl, hsl⟩ := hA
  simp only [gcor, Bool.and_eq_true, Bool.or_eq_true, decide_eq_true_eq, Bool.not_eq_true'] at hcor
  simp only [gstq, gi2, gl2] at hq
  obtain ⟨a, r, rfl, hsh, hd1, hcat, hk⟩ := hq
  obtain ⟨⟨hnx, rfl⟩, hcor⟩ := hcor
  cases re <;> first | (exact absurd hcor Bool.false_ne_true) | skip
  obtain ⟨ha2, haz⟩ := hRel.2.2.1.obj rfl hsh
  have key := hk y l p e R s m args below meth c b0 b D G L H locs cells slots lsR (pc + 3) hy rfl hC0 hA0 (gpc_nx hnx)
  show W p l e R s m args below meth c H locs cells slots _ (F0 m pc lsR (gv b0 b (.ref a) :: r.map (gv b0 b)))
  rw [gv_2 ha2]
  refine W.objInit hx hb hown (hts _ (gw_mem hcor)) (hts _ hO.2.2.2.1) (hts _ hO.2.2.2.2.1) rfl (by rw [hml]; exact hLV.1.1) rfl hdg (by omega) ?_ key
  have hc2 : ((r.map (gv b0 b)).map fun v => v.category).sum = gcat r := by
    rw [List.map_map]
    rw [gcat]
    congr 1
    apply List.map_congr_left
    intro v _
    exact gv_catE b0 b v
  show 2 * 0 + ((r.map (gv b0 b)).map fun v => v.category).sum + 12 ≤ R.locals
  rw [hc2]
  omega
set_option maxHeartbeats 1000000 in
theorem g_tsw {M : gT} {N : gN} {nM : Nat} (hO : gOK M N nM) (df lo hi : Int) (os : Array Int) : gGoal M N nM (.tableswitch df lo hi os) := by
  intro y l p e R s m args below meth c b0 b D G L H locs cells slots lsR pc d mc ms i ls st σ Q hq hy hc hC hA hpc
  obtain ⟨len, re, pl, hdg, hcor⟩ := hO.at hy hc hpc
  have hC0 := hC
  have hA0 := hA
  obtain ⟨hx, hb, hml, hown, hts, hEx, hr, hlk, hin, hK, hb0, hbs, hdf, hdl⟩ := hC
  obtain ⟨hRel, hS, hLV, hcl, hsl⟩ := hA
  simp only [gcor, Bool.and_eq_true, Bool.or_eq_true, decide_eq_true_eq, Bool.not_eq_true'] at hcor
  simp only [gstq, gi2, gl2] at hq
  obtain ⟨x, r, rfl, hk⟩ := hq
  cases re <;> first | (exact absurd hcor Bool.false_ne_true) | skip
  simp only [Bool.and_eq_true, decide_eq_true_eq, List.all_eq_true, List.mem_range] at hcor
  obtain ⟨⟨⟨⟨⟨rfl, rfl⟩, hdf2⟩, hsz1⟩, hsz2⟩, hall⟩ := hcor
  rename_i df2 lo hi os2
  by_cases hout : x.toInt < lo ∨ hi < x.toInt
  · obtain ⟨k, hk1, hk2⟩ := gpc_nat hdf2
    have e9 : gtab df lo hi os x = df.toNat := if_pos hout
    rw [e9] at hk
    exact lv_tableOut hx hb hdg hout hk1 (hk y l p e R s m args below meth c b0 b D G L H locs cells slots lsR k hy rfl hC0 hA0 hk2)
  · have h1 : ¬ x.toInt < lo := fun q => hout (Or.inl q)
    have h2 : ¬ hi < x.toInt := fun q => hout (Or.inr q)
    have hlt : (x.toInt - lo).toNat < os.size := by omega
    obtain ⟨k, hk1, hk2⟩ := gpc_nat (hall _ hlt)
    have e9 : gtab df lo hi os x = (os.getD (x.toInt - lo).toNat df).toNat := if_neg hout
    rw [e9] at hk
    exact lv_tableIn hx hb hdg h1 h2 (off := os2.getD (x.toInt - lo).toNat df2) (by
      have : (x.toInt - lo).toNat < os2.size := by omega
      simp [Array.getD, this]) hk1 (hk y l p e R s m args below meth c b0 b D G L H locs cells slots lsR k hy rfl hC0 hA0 hk2)
theorem glook_off {q : gQ} {pc : Int} {df df2 : Int} (hd : gpc q df = some (pc + df2)) (x : Int) : ∀ (l1 l2 : List (Int × Int)), l1.map (fun z => (z.1, gpc q z.2)) = l2.map (fun z => (z.1, some (pc + z.2))) → gpc q (Op.lookupswitch.offset l1 df x) = some (pc + Op.lookupswitch.offset l2 df2 x)
  | [], [], _ => hd
  | [], _ :: _, h => by simp at h
  | _ :: _, [], h => by simp at h
  | (a, o) :: r1, (a2, o2) :: r2, h => by
    simp only [List.map_cons, List.cons.injEq, Prod.mk.injEq] at h
    obtain ⟨⟨rfl, h2⟩, h3⟩ := h
    have ih := glook_off hd x r1 r2 h3
    unfold Op.lookupswitch.offset
    by_cases hx : x = a
    · simp [hx]
      exact h2
    · by_cases hx2 : a = x
      · exact absurd hx2.symm hx
      · simp [hx, hx2]
        exact ih
set_option maxHeartbeats 1000000 in
theorem g_lsw {M : gT} {N : gN} {nM : Nat} (hO : gOK M N nM) (df : Int) (ps : Array (Int × Int)) : gGoal M N nM (.lookupswitch df ps) := by
  intro y l p e R s m args below meth c b0 b D G L H locs cells slots lsR pc d mc ms i ls st σ Q hq hy hc hC hA hpc
  obtain ⟨len, re, pl, hdg, hcor⟩ := hO.at hy hc hpc
  have hC0 := hC
  have hA0 := hA
  obtain ⟨hx, hb, hml, hown, hts, hEx, hr, hlk, hin, hK, hb0, hbs, hdf, hdl⟩ := hC
  obtain ⟨hRel, hS, hLV, hcl, hsl⟩ := hA
  simp only [gcor, Bool.and_eq_true, Bool.or_eq_true, decide_eq_true_eq, Bool.not_eq_true'] at hcor
  simp only [gstq, gi2, gl2] at hq
  obtain ⟨x, r, rfl, hk⟩ := hq
  cases re <;> first | (exact absurd hcor Bool.false_ne_true) | skip
  simp only [Bool.and_eq_true, decide_eq_true_eq] at hcor
  obtain ⟨⟨hdf2, hsrt⟩, hps⟩ := hcor
  obtain ⟨k, hk1, hk2⟩ := gpc_nat (glook_off hdf2 x.toInt _ _ hps)
  exact lv_lookup hx hb hdg hsrt rfl hk1 (hk y l p e R s m args below meth c b0 b D G L H locs cells slots lsR k hy rfl hC0 hA0 hk2)
end
section
/-! CALLS, and the whole -/
theorem gEx.same {s U : State} (h : s.vm = U.vm) (hE : gEx s) : gEx U := ⟨fun z hz => va_Nw.same rfl h (hE.1 z hz), va_AO.moved (by rw [← h]; exact Vm.Alike.refl _) hE.2⟩
abbrev gwy (M : gT) (N : gN) (y : Nat) : List Cond := Cond.code (N y).1 (N y).2.1 (M y).2.1 (N y).2.2.1 :: gGw
def gPc (b0 b : Nat) (D : va_G) (G : gG3) (L : Nat) (as : List Value) (σ : gS) : Array Value → State → Prop := va_Pc (as.map (gv b0 b)) (fun U => gRel b0 b D G L σ U U.heap ∧ va_K D vwCl (gtys G) U ∧ gEx U ∧ b ≤ U.heap.size)
abbrev grm (d mc ms : Nat) : Room := { frames := d, cells := mc, slots := ms, locals := 64 * d }
/-- what is known of a method that is called -/
theorem ghd_facts {M : gT} {N : gN} {nM y : Nat} (hO : gOK M N nM) (h0 : 0 < y) (hy : y < nM) :
    Cond.code (N y).1 (N y).2.1 (M y).2.1 (N y).2.2.1 ∈ gGw ∧ Cond.initialized (N y).1.cls ∈ gGw ∧ ((N y).1.cls ≠ "java/lang/invoke/MethodHandle" ∧ (N y).1.cls ≠ "java/lang/invoke/VarHandle") ∧ plainName (N y).1.cls = true ∧ (M y).2.1 ≤ 40 ∧
    ((N y).2.2.2.2.1 = true → Cond.static (N y).1 ∈ gGw ∧ (parseMethodDescriptor (N y).1.desc).map (fun d => d.parameters.length) = some (M y).2.2.1) ∧
    ((N y).2.2.2.2.1 = false → Cond.instanceMethod (N y).1 ∈ gGw ∧ (∀ n, (M y).2.2.1 = n + 1 → (parseMethodDescriptor (N y).1.desc).map (fun d => d.parameters.length) = some n) ∧ (M y).2.2.2.1 < 9 ∧ gRX (M y).2.2.2.1 = (N y).1.cls ∧ ((N y).1.name = "<init>" → (N y).2.2.1 = none) ∧ (¬ (N y).1.name = "<init>" → Cond.selects (N y).1.cls (N y).1 (N y).1 ∈ gGw)) := by
  have h := hO.2.1 y h0 hy
  unfold ghd at h
  simp only [Bool.and_eq_true, decide_eq_true_eq] at h
  obtain ⟨⟨⟨⟨⟨h1, h2⟩, h3⟩, h4⟩, h5⟩, h6⟩ := h
  refine ⟨gw_mem h1, gw_mem h2, h4, h5, h6, fun hs => ?_, fun hs => ?_⟩
  · rw [hs] at h3
    simp only [if_true, Bool.and_eq_true, decide_eq_true_eq] at h3
    exact ⟨gw_mem h3.1, h3.2⟩
  · rw [hs] at h3
    simp only [Bool.false_eq_true, if_false, Bool.and_eq_true, decide_eq_true_eq] at h3
    obtain ⟨⟨⟨⟨g1, g2⟩, g3⟩, g4⟩, g5⟩ := h3
    refine ⟨gw_mem g1, fun n hn => ?_, g3, g4, fun hn => ?_, fun hn => ?_⟩
    · rw [hn] at g2
      cases hq : parseMethodDescriptor (N y).1.desc with
      | none => rw [hq] at g2; cases g2
      | some d =>
        rw [hq] at g2
        simp only [Option.map_some, Option.some.injEq] at g2 ⊢
        omega
    · rw [if_pos hn] at g5
      exact of_decide_eq_true g5
    · rw [if_neg hn] at g5
      exact gw_mem g5
theorem glaz_d {n : Nat} {as : List Value} (h : glaz n as = true) : (∀ x, .double x ∉ as) ∧ (glay as).length ≤ n := by
  simp only [glaz, Bool.and_eq_true, decide_eq_true_eq, List.all_eq_true] at h
  refine ⟨fun x hx => ?_, h.1⟩
  have := h.2 _ hx
  simp at this
set_option maxHeartbeats 1000000 in
theorem gMet {M : gT} {N : gN} {nM y : Nat} (hO : gOK M N nM) (h0 : 0 < y) (hy : y < nM) {l : Launch} {b0 b : Nat} {D : va_G} {G : gG3} {L d mc ms : Nat} {as : List Value} {σ : gS} {Q1 : gP} (hz : glaz (M y).2.1 as = true) (hb0 : b0 < b) (hK : gSnd M N nM d mc ms (M y).1 0 (gent (M y).2.1 as) [] σ Q1) :
    Met l (N y).1 (gwy M N y) (grm d mc ms) (gPc b0 b D G L as σ) (gQc b0 b D G L Q1) mc ms (gA b) := by
  obtain ⟨f1, f2, f3, f4, f5, f6, f7⟩ := ghd_facts hO h0 hy
  obtain ⟨z1, z2⟩ := glaz_d hz
  refine Met.ofW (cc := (N y).2.1) (maxL := (M y).2.1) (ret := (N y).2.2.1) f4 rfl ?_
  intro p e s m args below meth c s₁ B hml hv
  obtain ⟨rfl, hRel, hKs, hEx, hbs⟩ := hv
  have hts := atoms_spec (ws := gwy M N y) B.pre
  rw [lg_entry_eq]
  refine hK y l p e _ s m _ below meth c b0 b D G L s.heap [] 0 0 _ 0 hy rfl ⟨B.exec, B.bytes, hml, findClass_of_methodNamed B.named, fun w hw => hts w (List.mem_cons_of_mem _ hw), hEx, B.returns, B.notSynchronized, fun h => (name_of_methodNamed B.named B.method).1.trans h, hKs, hb0, hbs, Nat.le_refl _, Nat.le_refl _⟩ ⟨hRel, va_S.rf, gLV.entry z1 z2, by rw [Nat.zero_add]; exact Nat.le_refl _, by rw [Nat.zero_add]; exact Nat.le_refl _⟩ ?_
  have h := hO.1 y hy
  simp only [gchk, Bool.and_eq_true, decide_eq_true_eq] at h
  exact h.1
theorem gPc_blind {b0 b : Nat} {D : va_G} {G : gG3} {L : Nat} {as : List Value} {σ : gS} : FrameBlind (gPc b0 b D G L as σ) := by
  intro a U g mk q
  obtain ⟨q0, q1, q2, q3, q4⟩ := q
  exact ⟨q0, gRel.moved (u := U) (U := U.calling g mk a) (Vm.Alike.refl U.vm) q1, va_K.moved (u := U) (U := U.calling g mk a) (Vm.Alike.refl U.vm) q2, gEx.same (s := U) (U := U.calling g mk a) rfl q3, q4⟩
section GCA
variable {p : Program} {l : Launch} {e : Env} {R : Room} {s : State} {m : MethodId} {args : Array Value} {below : List Frame} {meth : Method} {c : Code} {H : Heap} {locs : List Loc} {cells slots : Nat} {Q : State → Prop}
/-- behind a call -/
theorem gcallW {b0 b : Nat} {D : va_G} {G : gG3} {L : Nat} {Q1 : gP} {pc mc ms : Nat} {lsR : Array Slot} {st0 rest : List Value} {a : Array Value} (hr : va_Run p l e R s m args below meth c H locs cells slots mc ms (F0 m pc lsR st0) rest (gQc b0 b D G L Q1 a) (gA b)) (hS : va_S (gA b) s.heap H locs)
    (kk : ∀ (r : Option Value) (σ' : gS) (H1 : Heap) (locs1 : List Loc), Q1 r σ' → gRel b0 b D G L σ' s H1 → va_S (gA b) s.heap H1 locs1 → W p l e R s m args below meth c H1 locs1 (cells + mc) (slots + ms) Q (F0 m (pc + 3) lsR ((r.map (gv b0 b)).toList ++ rest))) : W p l e R s m args below meth c H locs cells slots Q (F0 m pc lsR st0) := by
  intro T hT X
  obtain ⟨v, st₀, t, T', L', h0, X', hL, e1, e2, ⟨r, σ', hq, hv, hrel, hz, hk⟩, st⟩ := hr T hT X
  cases hv
  rw [h0] at hz hk
  have hal : s.vm.Alike t.vm := by rw [← e2]; exact X'.warmed.alike
  obtain ⟨t2, a1, b1⟩ := kk r σ' T'.heap (locs ++ L') hq (by rw [e1]; exact hrel.moved hal.symm)
    ⟨Nat.le_trans hS.1 (by rw [e1]; exact hz), fun q h1 h2 => by rw [e1, hk q (Nat.lt_of_lt_of_le h1 hS.1) h2]; exact hS.2.1 q h1 h2, fun q hq => by
      rcases List.mem_append.mp hq with h | h
      · exact hS.2.2 q h
      · exact hL q h⟩ T' rfl X'
  exact ⟨t2, st t2 a1, b1⟩
end GCA
theorem gchk_of {N : gN} {nM y n : Nat} {C C' : List Instr} (hC : C' = C) (hl : C.length = n) (h0 : gpc (N y).2.2.2.1 0 = some 0) (h : gpiece N nM C y 0 n = true) : gchk N nM C' y = true := by
  subst hC
  subst hl
  exact Bool.and_eq_true_iff.mpr ⟨decide_eq_true h0, h⟩
end
section
/-! THE CALLS' STEPS; all steps; what a run of the abstract machine says of the machine -/
set_option maxHeartbeats 1000000 in
theorem g_invs {M : gT} {N : gN} {nM : Nat} (hO : gOK M N nM) (y2 : Nat) : gGoal M N nM (.invokestatic y2) := by
  intro y l p e R s m args below meth c b0 b D G L H locs cells slots lsR pc d mc ms i ls st σ Q hq hy hc hC hA hpc
  obtain ⟨len, re, pl, hdg, hcor⟩ := hO.at hy hc hpc
  have hC0 := hC
  have hA0 := hA
  obtain ⟨hx, hb, hml, hown, hts, hEx, hr, hlk, hin, hK, hb0, hbs, hdf, hdl⟩ := hC
  obtain ⟨hRel, hS, hLV, hcl, hsl⟩ := hA
  simp only [gcor, Bool.and_eq_true, Bool.or_eq_true, decide_eq_true_eq, Bool.not_eq_true'] at hcor
  simp only [gstq, gi2, gl2] at hq
  obtain ⟨as, r, rfl, ⟨hlen, hzz⟩, hcat, hmc, hms, d', Q1, rfl, hKc, hkk⟩ := hq
  obtain ⟨⟨⟨⟨⟨hnx, rfl⟩, hy0⟩, hy2⟩, hst⟩, hcor⟩ := hcor
  cases re <;> first | (exact absurd hcor Bool.false_ne_true) | skip
  rename_i kx
  have hcor : gml (N y).1.cls kx (N y2).1 pl = true := hcor
  obtain ⟨f1, f2, f3, f4, f5, f6, -⟩ := ghd_facts hO hy0 hy2
  obtain ⟨f6, f8⟩ := f6 hst
  have cont : ∀ (r1 : Option Value) (σ' : gS) (H1 : Heap) (locs1 : List Loc), Q1 r1 σ' → gRel b0 b D G L σ' s H1 → va_S (gA b) s.heap H1 locs1 → W p l e R s m args below meth c H1 locs1 (cells + (M y2).2.2.2.2.1) (slots + (M y2).2.2.2.2.2) (MQ below (gQc b0 b D G L Q) args s R.cells R.slots (gA b)) (F0 m (pc + 3) lsR ((r1.map (gv b0 b)).toList ++ r.map (gv b0 b))) := by
    intro r1 σ' H1 locs1 hq1 hrel1 hS1
    have key := hkk r1 σ' hq1 y l p e R s m args below meth c b0 b D G L H1 locs1 (cells + (M y2).2.2.2.2.1) (slots + (M y2).2.2.2.2.2) lsR (pc + 3) hy rfl hC0 ⟨hrel1, hS1, hLV, by omega, by omega⟩ (gpc_nx hnx)
    have e3 : (r1.toList ++ r).map (gv b0 b) = (r1.map (gv b0 b)).toList ++ r.map (gv b0 b) := by
      cases r1 <;> rfl
    rw [e3] at key
    exact key
  have hroom : (grm d' (M y2).2.2.2.2.1 (M y2).2.2.2.2.2).frames + 1 ≤ R.frames ∧ 8 + ((M y2).2.1 + 11) + (grm d' (M y2).2.2.2.2.1 (M y2).2.2.2.2.2).locals ≤ R.locals := by
    show d' + 1 ≤ R.frames ∧ 8 + ((M y2).2.1 + 11) + 64 * d' ≤ R.locals
    omega
  have hcat2 : ((r.map (gv b0 b)).map fun v => v.category).sum ≤ 8 := by
    have hc2 : ((r.map (gv b0 b)).map fun v => v.category).sum = gcat r := by
      rw [List.map_map, gcat]
      congr 1
      apply List.map_congr_left
      intro v _
      exact gv_catE b0 b v
    rw [hc2]
    exact hcat
  have hG : GoodIn gGw (gwy M N y2) := fun w hw => (List.mem_cons.mp hw).elim (fun h => h ▸ gGw_good _ f1) (gGw_good w)
  have hM := gMet (l := l) (b0 := b0) (b := b) (D := D) (G := G) (L := L) hO hy0 hy2 hzz hb0 hKc
  have hstk : (as.reverse ++ r).map (gv b0 b) = (as.map (gv b0 b)).reverse ++ r.map (gv b0 b) := by simp
  rw [hstk]
  have hfit : cells + (M y2).2.2.2.2.1 ≤ R.cells ∧ slots + (M y2).2.2.2.2.2 ≤ R.slots := by omega
  by_cases hpl : pl < 10000
  · rw [gml, if_pos hpl] at hcor
    exact gcallW (va_runS (As := as.map (gv b0 b)) ⟨hx, hb, hml, hown, hts⟩ hM ⟨callB_of (M y2).2.2.1 hts hG rfl rfl rfl (hts _ f2) (hts _ (gw_mem hcor)) ⟨f3.1, f3.2, f8⟩ hroom, hts _ f6⟩ ⟨gPc_blind, fun U hU hW => ⟨rfl, by rw [hU]; exact hRel.moved hW.alike, va_K.moved hW.alike hK, gEx.warm hW hEx, by rw [hU]; exact Nat.le_trans hbs hS.1⟩⟩ rfl (by rw [List.length_map]; exact hlen) hLV.1.1 rfl (lv_room hcat2) hdg hfit) hS cont
  · rw [gml, if_neg hpl] at hcor
    cases hz : gnest[pl - 10000]? with
    | none => rw [hz] at hcor; cases hcor
    | some z =>
      obtain ⟨za, zj, zm, zh⟩ := z
      rw [hz] at hcor
      simp only [Bool.and_eq_true, decide_eq_true_eq] at hcor
      obtain ⟨⟨rfl, rfl⟩, rfl⟩ := hcor
      have hnw := hEx.1 _ (List.mem_of_getElem? hz)
      exact gcallW (va_runSN (As := as.map (gv b0 b)) ⟨hx, hb, hml, hown, hts⟩ hM ⟨va_cnB (M y2).2.2.1 hts hG rfl rfl rfl hnw (hts _ f2) ⟨f3.1, f3.2, f8⟩ hroom, hts _ f6, trivial⟩ ⟨gPc_blind, fun U hU hW => ⟨rfl, by rw [hU]; exact hRel.moved hW.alike, va_K.moved hW.alike hK, gEx.warm hW hEx, by rw [hU]; exact Nat.le_trans hbs hS.1⟩⟩ rfl (by rw [List.length_map]; exact hlen) hLV.1.1 rfl (lv_room hcat2) hdg hfit) hS cont
set_option maxHeartbeats 1000000 in
theorem g_invv {M : gT} {N : gN} {nM : Nat} (hO : gOK M N nM) (y2 : Nat) : gGoal M N nM (.invokevirtual y2) := by
  intro y l p e R s m args below meth c b0 b D G L H locs cells slots lsR pc d mc ms i ls st σ Q hq hy hc hC hA hpc
  obtain ⟨len, re, pl, hdg, hcor⟩ := hO.at hy hc hpc
  have hC0 := hC
  have hA0 := hA
  obtain ⟨hx, hb, hml, hown, hts, hEx, hr, hlk, hin, hK, hb0, hbs, hdf, hdl⟩ := hC
  obtain ⟨hRel, hS, hLV, hcl, hsl⟩ := hA
  simp only [gcor, Bool.and_eq_true, Bool.or_eq_true, decide_eq_true_eq, Bool.not_eq_true'] at hcor
  simp only [gstq, gi2, gl2] at hq
  obtain ⟨a, as, r, rfl, hsh, ⟨hlen, hzz⟩, hcat, hmc, hms, d', Q1, rfl, hKc, hkk⟩ := hq
  obtain ⟨⟨⟨⟨⟨⟨hnx, rfl⟩, hy0⟩, hy2⟩, hst⟩, hni⟩, hcor⟩ := hcor
  cases re <;> first | (exact absurd hcor Bool.false_ne_true) | skip
  obtain ⟨f1, f2, f3, f4, f5, -, f7⟩ := ghd_facts hO hy0 hy2
  obtain ⟨g1, g2, g3, g4, g5, g6⟩ := f7 hst
  have cont : ∀ (r1 : Option Value) (σ' : gS) (H1 : Heap) (locs1 : List Loc), Q1 r1 σ' → gRel b0 b D G L σ' s H1 → va_S (gA b) s.heap H1 locs1 → W p l e R s m args below meth c H1 locs1 (cells + (M y2).2.2.2.2.1) (slots + (M y2).2.2.2.2.2) (MQ below (gQc b0 b D G L Q) args s R.cells R.slots (gA b)) (F0 m (pc + 3) lsR ((r1.map (gv b0 b)).toList ++ r.map (gv b0 b))) := by
    intro r1 σ' H1 locs1 hq1 hrel1 hS1
    have key := hkk r1 σ' hq1 y l p e R s m args below meth c b0 b D G L H1 locs1 (cells + (M y2).2.2.2.2.1) (slots + (M y2).2.2.2.2.2) lsR (pc + 3) hy rfl hC0 ⟨hrel1, hS1, hLV, by omega, by omega⟩ (gpc_nx hnx)
    have e3 : (r1.toList ++ r).map (gv b0 b) = (r1.map (gv b0 b)).toList ++ r.map (gv b0 b) := by
      cases r1 <;> rfl
    rw [e3] at key
    exact key
  have hroom : (grm d' (M y2).2.2.2.2.1 (M y2).2.2.2.2.2).frames + 1 ≤ R.frames ∧ 8 + ((M y2).2.1 + 11) + (grm d' (M y2).2.2.2.2.1 (M y2).2.2.2.2.2).locals ≤ R.locals := by
    show d' + 1 ≤ R.frames ∧ 8 + ((M y2).2.1 + 11) + 64 * d' ≤ R.locals
    omega
  have hcat2 : ((r.map (gv b0 b)).map fun v => v.category).sum ≤ 8 := by
    have hc2 : ((r.map (gv b0 b)).map fun v => v.category).sum = gcat r := by
      rw [List.map_map, gcat]
      congr 1
      apply List.map_congr_left
      intro v _
      exact gv_catE b0 b v
    rw [hc2]
    exact hcat
  have hG : GoodIn gGw (gwy M N y2) := fun w hw => (List.mem_cons.mp hw).elim (fun h => h ▸ gGw_good _ f1) (gGw_good w)
  have hM := gMet (l := l) (b0 := b0) (b := b) (D := D) (G := G) (L := L) hO hy0 hy2 hzz hb0 hKc
  obtain ⟨ha2, haz⟩ := hRel.2.2.1.obj hsh (by omega)
  have hat := gws_at (b0 := b0) (b := b) (G := G) ha2 haz
  rw [gcell_obj hsh (by omega)] at hat
  have hn : (M y2).2.2.1 = as.length + 1 := by rw [← hlen]; rfl
  have f8 := g2 _ hn
  have hfit : cells + (M y2).2.2.2.2.1 ≤ R.cells ∧ slots + (M y2).2.2.2.2.2 ≤ R.slots := by omega
  have hstk : (as.reverse ++ .ref a :: r).map (gv b0 b) = (as.map (gv b0 b)).reverse ++ .ref (b + (a - 2)) :: r.map (gv b0 b) := by
    simp only [List.map_append, List.map_reverse, List.map_cons, gv_2 ha2]
  have hav : (Value.ref a :: as).map (gv b0 b) = .ref (b + (a - 2)) :: as.map (gv b0 b) := by
    rw [List.map_cons, gv_2 ha2]
  rw [hstk]
  have hcl9 := (hO.2.2.1 _ g3).2.1
  have hrecv : ∃ cell : Cell, H[b + (a - 2)]? = some cell ∧ cell.vm.isStatics = false ∧ s.vm.findClass (N y2).1.cls = some cell.cls := by
    have := va_recv hK hRel.1 hcl9 hat
    rw [← g4]
    exact this
  exact gcallW (va_runV (As := as.map (gv b0 b)) (C := (N y2).1.cls) ⟨hx, hb, hml, hown, hts⟩ hM ⟨callB_of as.length hts hG rfl rfl rfl (hts _ f2) (hts _ (gw_mem hcor)) ⟨f3.1, f3.2, f8⟩ hroom, hts _ g1, hts _ (g6 hni)⟩ ⟨gPc_blind, hrecv, fun U hU hW => ⟨by rw [hav], by rw [hU]; exact hRel.moved hW.alike, va_K.moved hW.alike hK, gEx.warm hW hEx, by rw [hU]; exact Nat.le_trans hbs hS.1⟩⟩ rfl (by rw [List.length_map]) hLV.1.1 rfl (lv_room hcat2) hdg hfit) hS cont
set_option maxHeartbeats 1000000 in
theorem g_invi {M : gT} {N : gN} {nM : Nat} (hO : gOK M N nM) (y2 : Nat) : gGoal M N nM (.invokespecial y2) := by
  intro y l p e R s m args below meth c b0 b D G L H locs cells slots lsR pc d mc ms i ls st σ Q hq hy hc hC hA hpc
  obtain ⟨len, re, pl, hdg, hcor⟩ := hO.at hy hc hpc
  have hC0 := hC
  have hA0 := hA
  obtain ⟨hx, hb, hml, hown, hts, hEx, hr, hlk, hin, hK, hb0, hbs, hdf, hdl⟩ := hC
  obtain ⟨hRel, hS, hLV, hcl, hsl⟩ := hA
  simp only [gcor, Bool.and_eq_true, Bool.or_eq_true, decide_eq_true_eq, Bool.not_eq_true'] at hcor
  simp only [gstq, gi2, gl2] at hq
  obtain ⟨a, as, r, rfl, hsh, ⟨hlen, hzz⟩, hcat, hmc, hms, d', Q1, rfl, hKc, hkk⟩ := hq
  obtain ⟨⟨⟨⟨⟨⟨hnx, rfl⟩, hy0⟩, hy2⟩, hst⟩, hini⟩, hcor⟩ := hcor
  cases re <;> first | (exact absurd hcor Bool.false_ne_true) | skip
  rename_i kx
  have hcor : gml (N y).1.cls kx (N y2).1 pl = true := hcor
  obtain ⟨f1, f2, f3, f4, f5, -, f7⟩ := ghd_facts hO hy0 hy2
  obtain ⟨g1, g2, g3, g4, g5, g6⟩ := f7 hst
  have cont : ∀ (r1 : Option Value) (σ' : gS) (H1 : Heap) (locs1 : List Loc), Q1 r1 σ' → gRel b0 b D G L σ' s H1 → va_S (gA b) s.heap H1 locs1 → W p l e R s m args below meth c H1 locs1 (cells + (M y2).2.2.2.2.1) (slots + (M y2).2.2.2.2.2) (MQ below (gQc b0 b D G L Q) args s R.cells R.slots (gA b)) (F0 m (pc + 3) lsR ((r1.map (gv b0 b)).toList ++ r.map (gv b0 b))) := by
    intro r1 σ' H1 locs1 hq1 hrel1 hS1
    have key := hkk r1 σ' hq1 y l p e R s m args below meth c b0 b D G L H1 locs1 (cells + (M y2).2.2.2.2.1) (slots + (M y2).2.2.2.2.2) lsR (pc + 3) hy rfl hC0 ⟨hrel1, hS1, hLV, by omega, by omega⟩ (gpc_nx hnx)
    have e3 : (r1.toList ++ r).map (gv b0 b) = (r1.map (gv b0 b)).toList ++ r.map (gv b0 b) := by
      cases r1 <;> rfl
    rw [e3] at key
    exact key
  have hroom : (grm d' (M y2).2.2.2.2.1 (M y2).2.2.2.2.2).frames + 1 ≤ R.frames ∧ 8 + ((M y2).2.1 + 11) + (grm d' (M y2).2.2.2.2.1 (M y2).2.2.2.2.2).locals ≤ R.locals := by
    show d' + 1 ≤ R.frames ∧ 8 + ((M y2).2.1 + 11) + 64 * d' ≤ R.locals
    omega
  have hcat2 : ((r.map (gv b0 b)).map fun v => v.category).sum ≤ 8 := by
    have hc2 : ((r.map (gv b0 b)).map fun v => v.category).sum = gcat r := by
      rw [List.map_map, gcat]
      congr 1
      apply List.map_congr_left
      intro v _
      exact gv_catE b0 b v
    rw [hc2]
    exact hcat
  have hG : GoodIn gGw (gwy M N y2) := fun w hw => (List.mem_cons.mp hw).elim (fun h => h ▸ gGw_good _ f1) (gGw_good w)
  have hM := gMet (l := l) (b0 := b0) (b := b) (D := D) (G := G) (L := L) hO hy0 hy2 hzz hb0 hKc
  obtain ⟨ha2, haz⟩ := hRel.2.2.1.obj hsh (by omega)
  have hat := gws_at (b0 := b0) (b := b) (G := G) ha2 haz
  rw [gcell_obj hsh (by omega)] at hat
  have hn : (M y2).2.2.1 = as.length + 1 := by rw [← hlen]; rfl
  have f8 := g2 _ hn
  have hfit : cells + (M y2).2.2.2.2.1 ≤ R.cells ∧ slots + (M y2).2.2.2.2.2 ≤ R.slots := by omega
  have hstk : (as.reverse ++ .ref a :: r).map (gv b0 b) = (as.map (gv b0 b)).reverse ++ .ref (b + (a - 2)) :: r.map (gv b0 b) := by
    simp only [List.map_append, List.map_reverse, List.map_cons, gv_2 ha2]
  have hav : (Value.ref a :: as).map (gv b0 b) = .ref (b + (a - 2)) :: as.map (gv b0 b) := by
    rw [List.map_cons, gv_2 ha2]
  rw [hstk]
  have hret := g5 hini
  have hw : gwy M N y2 = Cond.code (N y2).1 (N y2).2.1 (M y2).2.1 none :: gGw := by rw [gwy, hret]
  by_cases hpl : pl < 10000
  · rw [gml, if_pos hpl] at hcor
    exact gcallW (va_runI (As := as.map (gv b0 b)) ⟨hx, hb, hml, hown, hts⟩ hM ⟨callB_of as.length hts hG hw rfl rfl (hts _ f2) (hts _ (gw_mem hcor)) ⟨f3.1, f3.2, f8⟩ hroom, hini, hts _ g1⟩ ⟨gPc_blind, fun U hU hW => ⟨by rw [hav], by rw [hU]; exact hRel.moved hW.alike, va_K.moved hW.alike hK, gEx.warm hW hEx, by rw [hU]; exact Nat.le_trans hbs hS.1⟩⟩ rfl (by rw [List.length_map]) hLV.1.1 rfl (lv_room hcat2) hdg hfit) hS cont
  · rw [gml, if_neg hpl] at hcor
    cases hz : gnest[pl - 10000]? with
    | none => rw [hz] at hcor; cases hcor
    | some z =>
      obtain ⟨za, zj, zm, zh⟩ := z
      rw [hz] at hcor
      simp only [Bool.and_eq_true, decide_eq_true_eq] at hcor
      obtain ⟨⟨rfl, rfl⟩, rfl⟩ := hcor
      have hnw := hEx.1 _ (List.mem_of_getElem? hz)
      exact gcallW (va_runIN (As := as.map (gv b0 b)) ⟨hx, hb, hml, hown, hts⟩ hM ⟨va_cnB as.length hts hG hw rfl rfl hnw (hts _ f2) ⟨f3.1, f3.2, f8⟩ hroom, hini, hts _ g1⟩ ⟨gPc_blind, fun U hU hW => ⟨by rw [hav], by rw [hU]; exact hRel.moved hW.alike, va_K.moved hW.alike hK, gEx.warm hW hEx, by rw [hU]; exact Nat.le_trans hbs hS.1⟩⟩ rfl (by rw [List.length_map]) hLV.1.1 rfl (lv_room hcat2) hdg hfit) hS cont
theorem g_all {M : gT} {N : gN} {nM : Nat} (hO : gOK M N nM) (ins : Instr) : gGoal M N nM ins := by
  match ins with
  | .iconst n => exact g_iconst hO n
  | .ldc2_w n => exact g_ldc2 hO n
  | .iload k => exact g_iload hO k
  | .lload k => exact g_lload hO k
  | .aload k => exact g_aload hO k
  | .istore k => exact g_istore hO k
  | .astore k => exact g_astore hO k
  | .lstore k => exact g_lstore hO k
  | .iinc k n => exact g_iinc hO k n
  | .getfield e => exact g_getI hO e
  | .getstatic e => exact g_getR hO e
  | .dload e => exact g_getL hO e
  | .putfield e => exact g_putI hO e
  | .putstatic e => exact g_putR hO e
  | .dstore e => exact g_putL hO e
  | .iaload => exact g_iaload hO
  | .baload => exact g_baload hO
  | .aaload => exact g_aaload hO
  | .iastore => exact g_iastore hO
  | .bastore => exact g_bastore hO
  | .aastore => exact g_aastore hO
  | .arraylength => exact g_alen hO
  | .new e => exact g_new hO e
  | .newarray t => exact g_newarray hO t
  | .anewarray k => exact g_anew hO k
  | .monitorexit => exact g_objInit hO
  | .iadd => exact g_iadd hO
  | .isub => exact g_isub hO
  | .imul => exact g_imul hO
  | .iand => exact g_iand hO
  | .ior => exact g_ior hO
  | .ixor => exact g_ixor hO
  | .ishl => exact g_ishl hO
  | .ishr => exact g_ishr hO
  | .iushr => exact g_iushr hO
  | .idiv => exact g_idiv hO
  | .irem => exact g_irem hO
  | .ineg => exact g_ineg hO
  | .ladd => exact g_ladd hO
  | .lmul => exact g_lmul hO
  | .land => exact g_land hO
  | .lor => exact g_lor hO
  | .lrem => exact g_lrem hO
  | .lushr => exact g_lushr hO
  | .lshl => exact g_lshl hO
  | .lcmp => exact g_lcmp hO
  | .i2l => exact g_i2l hO
  | .l2i => exact g_l2i hO
  | .dup => exact g_dup hO
  | .dup2 => exact g_dup2 hO
  | .pop => exact g_pop hO
  | .ireturn => exact g_iret hO
  | .freturn => exact g_zret hO
  | .lreturn => exact g_lret hO
  | .return_ => exact g_vret hO
  | .if_icmp c t => exact g_icmp hO c t
  | .ifCond c t => exact g_ifc hO c t
  | .goto t => exact g_goto hO t
  | .tableswitch df lo hi os => exact g_tsw hO df lo hi os
  | .lookupswitch df ps => exact g_lsw hO df ps
  | .invokestatic y => exact g_invs hO y
  | .invokevirtual y => exact g_invv hO y
  | .invokespecial y => exact g_invi hO y
  | .aconst_null => exact fun y l p e R s m args below meth c b0 b D G L H locs cells slots lsR pc d mc ms i ls st σ Q hq => hq.elim
  | .aload_n _ => exact fun y l p e R s m args below meth c b0 b D G L H locs cells slots lsR pc d mc ms i ls st σ Q hq => hq.elim
  | .areturn => exact fun y l p e R s m args below meth c b0 b D G L H locs cells slots lsR pc d mc ms i ls st σ Q hq => hq.elim
  | .astore_n _ => exact fun y l p e R s m args below meth c b0 b D G L H locs cells slots lsR pc d mc ms i ls st σ Q hq => hq.elim
  | .athrow => exact fun y l p e R s m args below meth c b0 b D G L H locs cells slots lsR pc d mc ms i ls st σ Q hq => hq.elim
  | .bipush _ => exact fun y l p e R s m args below meth c b0 b D G L H locs cells slots lsR pc d mc ms i ls st σ Q hq => hq.elim
  | .caload => exact fun y l p e R s m args below meth c b0 b D G L H locs cells slots lsR pc d mc ms i ls st σ Q hq => hq.elim
  | .castore => exact fun y l p e R s m args below meth c b0 b D G L H locs cells slots lsR pc d mc ms i ls st σ Q hq => hq.elim
  | .checkcast _ => exact fun y l p e R s m args below meth c b0 b D G L H locs cells slots lsR pc d mc ms i ls st σ Q hq => hq.elim
  | .d2f => exact fun y l p e R s m args below meth c b0 b D G L H locs cells slots lsR pc d mc ms i ls st σ Q hq => hq.elim
  | .d2i => exact fun y l p e R s m args below meth c b0 b D G L H locs cells slots lsR pc d mc ms i ls st σ Q hq => hq.elim
  | .d2l => exact fun y l p e R s m args below meth c b0 b D G L H locs cells slots lsR pc d mc ms i ls st σ Q hq => hq.elim
  | .dadd => exact fun y l p e R s m args below meth c b0 b D G L H locs cells slots lsR pc d mc ms i ls st σ Q hq => hq.elim
  | .daload => exact fun y l p e R s m args below meth c b0 b D G L H locs cells slots lsR pc d mc ms i ls st σ Q hq => hq.elim
  | .dastore => exact fun y l p e R s m args below meth c b0 b D G L H locs cells slots lsR pc d mc ms i ls st σ Q hq => hq.elim
  | .dcmp _ => exact fun y l p e R s m args below meth c b0 b D G L H locs cells slots lsR pc d mc ms i ls st σ Q hq => hq.elim
  | .dconst _ => exact fun y l p e R s m args below meth c b0 b D G L H locs cells slots lsR pc d mc ms i ls st σ Q hq => hq.elim
  | .ddiv => exact fun y l p e R s m args below meth c b0 b D G L H locs cells slots lsR pc d mc ms i ls st σ Q hq => hq.elim
  | .dload_n _ => exact fun y l p e R s m args below meth c b0 b D G L H locs cells slots lsR pc d mc ms i ls st σ Q hq => hq.elim
  | .dmul => exact fun y l p e R s m args below meth c b0 b D G L H locs cells slots lsR pc d mc ms i ls st σ Q hq => hq.elim
  | .dneg => exact fun y l p e R s m args below meth c b0 b D G L H locs cells slots lsR pc d mc ms i ls st σ Q hq => hq.elim
  | .drem => exact fun y l p e R s m args below meth c b0 b D G L H locs cells slots lsR pc d mc ms i ls st σ Q hq => hq.elim
  | .dreturn => exact fun y l p e R s m args below meth c b0 b D G L H locs cells slots lsR pc d mc ms i ls st σ Q hq => hq.elim
  | .dstore_n _ => exact fun y l p e R s m args below meth c b0 b D G L H locs cells slots lsR pc d mc ms i ls st σ Q hq => hq.elim
  | .dsub => exact fun y l p e R s m args below meth c b0 b D G L H locs cells slots lsR pc d mc ms i ls st σ Q hq => hq.elim
  | .dup_x1 => exact fun y l p e R s m args below meth c b0 b D G L H locs cells slots lsR pc d mc ms i ls st σ Q hq => hq.elim
  | .dup_x2 => exact fun y l p e R s m args below meth c b0 b D G L H locs cells slots lsR pc d mc ms i ls st σ Q hq => hq.elim
  | .dup2_x1 => exact fun y l p e R s m args below meth c b0 b D G L H locs cells slots lsR pc d mc ms i ls st σ Q hq => hq.elim
  | .dup2_x2 => exact fun y l p e R s m args below meth c b0 b D G L H locs cells slots lsR pc d mc ms i ls st σ Q hq => hq.elim
  | .f2d => exact fun y l p e R s m args below meth c b0 b D G L H locs cells slots lsR pc d mc ms i ls st σ Q hq => hq.elim
  | .f2i => exact fun y l p e R s m args below meth c b0 b D G L H locs cells slots lsR pc d mc ms i ls st σ Q hq => hq.elim
  | .f2l => exact fun y l p e R s m args below meth c b0 b D G L H locs cells slots lsR pc d mc ms i ls st σ Q hq => hq.elim
  | .fadd => exact fun y l p e R s m args below meth c b0 b D G L H locs cells slots lsR pc d mc ms i ls st σ Q hq => hq.elim
  | .faload => exact fun y l p e R s m args below meth c b0 b D G L H locs cells slots lsR pc d mc ms i ls st σ Q hq => hq.elim
  | .fastore => exact fun y l p e R s m args below meth c b0 b D G L H locs cells slots lsR pc d mc ms i ls st σ Q hq => hq.elim
  | .fcmp _ => exact fun y l p e R s m args below meth c b0 b D G L H locs cells slots lsR pc d mc ms i ls st σ Q hq => hq.elim
  | .fconst _ => exact fun y l p e R s m args below meth c b0 b D G L H locs cells slots lsR pc d mc ms i ls st σ Q hq => hq.elim
  | .fdiv => exact fun y l p e R s m args below meth c b0 b D G L H locs cells slots lsR pc d mc ms i ls st σ Q hq => hq.elim
  | .fload _ => exact fun y l p e R s m args below meth c b0 b D G L H locs cells slots lsR pc d mc ms i ls st σ Q hq => hq.elim
  | .fload_n _ => exact fun y l p e R s m args below meth c b0 b D G L H locs cells slots lsR pc d mc ms i ls st σ Q hq => hq.elim
  | .fmul => exact fun y l p e R s m args below meth c b0 b D G L H locs cells slots lsR pc d mc ms i ls st σ Q hq => hq.elim
  | .fneg => exact fun y l p e R s m args below meth c b0 b D G L H locs cells slots lsR pc d mc ms i ls st σ Q hq => hq.elim
  | .frem => exact fun y l p e R s m args below meth c b0 b D G L H locs cells slots lsR pc d mc ms i ls st σ Q hq => hq.elim
  | .fstore _ => exact fun y l p e R s m args below meth c b0 b D G L H locs cells slots lsR pc d mc ms i ls st σ Q hq => hq.elim
  | .fstore_n _ => exact fun y l p e R s m args below meth c b0 b D G L H locs cells slots lsR pc d mc ms i ls st σ Q hq => hq.elim
  | .fsub => exact fun y l p e R s m args below meth c b0 b D G L H locs cells slots lsR pc d mc ms i ls st σ Q hq => hq.elim
  | .goto_w _ => exact fun y l p e R s m args below meth c b0 b D G L H locs cells slots lsR pc d mc ms i ls st σ Q hq => hq.elim
  | .i2b => exact fun y l p e R s m args below meth c b0 b D G L H locs cells slots lsR pc d mc ms i ls st σ Q hq => hq.elim
  | .i2c => exact fun y l p e R s m args below meth c b0 b D G L H locs cells slots lsR pc d mc ms i ls st σ Q hq => hq.elim
  | .i2d => exact fun y l p e R s m args below meth c b0 b D G L H locs cells slots lsR pc d mc ms i ls st σ Q hq => hq.elim
  | .i2f => exact fun y l p e R s m args below meth c b0 b D G L H locs cells slots lsR pc d mc ms i ls st σ Q hq => hq.elim
  | .i2s => exact fun y l p e R s m args below meth c b0 b D G L H locs cells slots lsR pc d mc ms i ls st σ Q hq => hq.elim
  | .if_acmp _ _ => exact fun y l p e R s m args below meth c b0 b D G L H locs cells slots lsR pc d mc ms i ls st σ Q hq => hq.elim
  | .ifnonnull _ => exact fun y l p e R s m args below meth c b0 b D G L H locs cells slots lsR pc d mc ms i ls st σ Q hq => hq.elim
  | .ifnull _ => exact fun y l p e R s m args below meth c b0 b D G L H locs cells slots lsR pc d mc ms i ls st σ Q hq => hq.elim
  | .iload_n _ => exact fun y l p e R s m args below meth c b0 b D G L H locs cells slots lsR pc d mc ms i ls st σ Q hq => hq.elim
  | .instanceof _ => exact fun y l p e R s m args below meth c b0 b D G L H locs cells slots lsR pc d mc ms i ls st σ Q hq => hq.elim
  | .invokedynamic _ => exact fun y l p e R s m args below meth c b0 b D G L H locs cells slots lsR pc d mc ms i ls st σ Q hq => hq.elim
  | .invokeinterface _ _ => exact fun y l p e R s m args below meth c b0 b D G L H locs cells slots lsR pc d mc ms i ls st σ Q hq => hq.elim
  | .istore_n _ => exact fun y l p e R s m args below meth c b0 b D G L H locs cells slots lsR pc d mc ms i ls st σ Q hq => hq.elim
  | .jsr _ => exact fun y l p e R s m args below meth c b0 b D G L H locs cells slots lsR pc d mc ms i ls st σ Q hq => hq.elim
  | .jsr_w _ => exact fun y l p e R s m args below meth c b0 b D G L H locs cells slots lsR pc d mc ms i ls st σ Q hq => hq.elim
  | .l2d => exact fun y l p e R s m args below meth c b0 b D G L H locs cells slots lsR pc d mc ms i ls st σ Q hq => hq.elim
  | .l2f => exact fun y l p e R s m args below meth c b0 b D G L H locs cells slots lsR pc d mc ms i ls st σ Q hq => hq.elim
  | .laload => exact fun y l p e R s m args below meth c b0 b D G L H locs cells slots lsR pc d mc ms i ls st σ Q hq => hq.elim
  | .lastore => exact fun y l p e R s m args below meth c b0 b D G L H locs cells slots lsR pc d mc ms i ls st σ Q hq => hq.elim
  | .lconst _ => exact fun y l p e R s m args below meth c b0 b D G L H locs cells slots lsR pc d mc ms i ls st σ Q hq => hq.elim
  | .ldc _ => exact fun y l p e R s m args below meth c b0 b D G L H locs cells slots lsR pc d mc ms i ls st σ Q hq => hq.elim
  | .ldc_w _ => exact fun y l p e R s m args below meth c b0 b D G L H locs cells slots lsR pc d mc ms i ls st σ Q hq => hq.elim
  | .ldiv => exact fun y l p e R s m args below meth c b0 b D G L H locs cells slots lsR pc d mc ms i ls st σ Q hq => hq.elim
  | .lload_n _ => exact fun y l p e R s m args below meth c b0 b D G L H locs cells slots lsR pc d mc ms i ls st σ Q hq => hq.elim
  | .lneg => exact fun y l p e R s m args below meth c b0 b D G L H locs cells slots lsR pc d mc ms i ls st σ Q hq => hq.elim
  | .lshr => exact fun y l p e R s m args below meth c b0 b D G L H locs cells slots lsR pc d mc ms i ls st σ Q hq => hq.elim
  | .lstore_n _ => exact fun y l p e R s m args below meth c b0 b D G L H locs cells slots lsR pc d mc ms i ls st σ Q hq => hq.elim
  | .lsub => exact fun y l p e R s m args below meth c b0 b D G L H locs cells slots lsR pc d mc ms i ls st σ Q hq => hq.elim
  | .lxor => exact fun y l p e R s m args below meth c b0 b D G L H locs cells slots lsR pc d mc ms i ls st σ Q hq => hq.elim
  | .monitorenter => exact fun y l p e R s m args below meth c b0 b D G L H locs cells slots lsR pc d mc ms i ls st σ Q hq => hq.elim
  | .multianewarray _ _ => exact fun y l p e R s m args below meth c b0 b D G L H locs cells slots lsR pc d mc ms i ls st σ Q hq => hq.elim
  | .nop => exact fun y l p e R s m args below meth c b0 b D G L H locs cells slots lsR pc d mc ms i ls st σ Q hq => hq.elim
  | .pop2 => exact fun y l p e R s m args below meth c b0 b D G L H locs cells slots lsR pc d mc ms i ls st σ Q hq => hq.elim
  | .ret _ => exact fun y l p e R s m args below meth c b0 b D G L H locs cells slots lsR pc d mc ms i ls st σ Q hq => hq.elim
  | .saload => exact fun y l p e R s m args below meth c b0 b D G L H locs cells slots lsR pc d mc ms i ls st σ Q hq => hq.elim
  | .sastore => exact fun y l p e R s m args below meth c b0 b D G L H locs cells slots lsR pc d mc ms i ls st σ Q hq => hq.elim
  | .sipush _ => exact fun y l p e R s m args below meth c b0 b D G L H locs cells slots lsR pc d mc ms i ls st σ Q hq => hq.elim
  | .swap => exact fun y l p e R s m args below meth c b0 b D G L H locs cells slots lsR pc d mc ms i ls st σ Q hq => hq.elim
/-- what a run of the abstract machine says of the machine -/
theorem g_sound {M : gT} {N : gN} {nM : Nat} (hO : gOK M N nM) {d mc ms : Nat} {C : List Instr} {i : Nat} {ls st : List Value} {σ : gS} {Q : gP} (h : gW M d mc ms C i ls st σ Q) : gSnd M N nM d mc ms C i ls st σ Q := by
  refine h _ ?_
  intro d mc ms C i ls st σ Q ⟨ins, hc, hq⟩ y l p e R s m args below meth c b0 b D G L H locs cells slots lsR pc hy hC hCx hA hpc
  subst hC
  exact g_all hO ins y l p e R s m args below meth c b0 b D G L H locs cells slots lsR pc d mc ms i ls st σ Q hq hy hc hCx hA hpc
end
section
/-! THE CODES, laid by wip/whole/gen/data.py: k_: abstract code; q_: the instructions as they are decoded, with the place of each one's word -/
def k_L_law : List Instr := [.new 463, .dup, .invokespecial 55, .astore 1, .new 548, .dup, .invokespecial 105, .astore 2, .iconst 0, .istore 3, .iload 3, .aload 0, .arraylength, .iconst 6, .isub, .if_icmp .gt 839, .aload 0, .iload 3, .iaload, .iconst 63, .iand, .tableswitch 837 0 33 #[22, 39, 46, 53, 60, 87, 114, 141, 178, 195, 222, 239, 256, 291, 308, 315, 322, 339, 386, 431, 448, 475, 492, 519, 556, 563, 580, 625, 662, 727, 769, 786, 803, 820], .aload 1, .aload 0, .iload 3, .iconst 1, .iadd, .iaload, .invokevirtual 56, .aload 2, .aload 0, .iload 3, .iconst 1, .iadd, .iaload, .invokevirtual 109, .if_icmp .eq 837, .iconst 0, .freturn, .aload 1, .invokevirtual 57, .aload 2, .invokevirtual 110, .if_icmp .eq 837, .iconst 0, .freturn, .aload 1, .invokevirtual 58, .aload 2, .invokevirtual 115, .if_icmp .eq 837, .iconst 0, .freturn, .aload 1, .invokevirtual 59, .aload 2, .invokevirtual 116, .if_icmp .eq 837, .iconst 0, .freturn, .aload 1, .aload 0, .iload 3, .iconst 1, .iadd, .iaload, .aload 0, .iload 3, .iconst 2, .iadd, .iaload, .invokevirtual 60, .aload 2, .aload 0, .iload 3, .iconst 1, .iadd, .iaload, .aload 0, .iload 3, .iconst 2, .iadd, .iaload, .invokevirtual 128, .if_icmp .eq 837, .iconst 0, .freturn, .aload 1, .aload 0, .iload 3, .iconst 1, .iadd, .iaload, .aload 0, .iload 3, .iconst 2, .iadd, .iaload, .invokevirtual 61, .aload 2, .aload 0, .iload 3, .iconst 1, .iadd, .iaload, .aload 0, .iload 3, .iconst 2, .iadd, .iaload, .invokevirtual 129, .if_icmp .eq 837, .iconst 0, .freturn, .aload 1, .aload 0, .iload 3, .iconst 1, .iadd, .iaload, .aload 0, .iload 3, .iconst 2, .iadd, .iaload, .invokevirtual 62, .aload 2, .aload 0, .iload 3, .iconst 1, .iadd, .iaload, .aload 0, .iload 3, .iconst 2, .iadd, .iaload, .invokevirtual 130, .if_icmp .eq 837, .iconst 0, .freturn, .aload 1, .aload 0, .iload 3, .iconst 1, .iadd, .iaload, .aload 0, .iload 3, .iconst 2, .iadd, .iaload, .aload 0, .iload 3, .iconst 3, .iadd, .iaload, .invokevirtual 63, .aload 2, .aload 0, .iload 3, .iconst 1, .iadd, .iaload, .aload 0, .iload 3, .iconst 2, .iadd, .iaload, .aload 0, .iload 3, .iconst 3, .iadd, .iaload, .invokevirtual 131, .if_icmp .eq 837, .iconst 0, .freturn, .aload 1, .aload 0, .iload 3, .iconst 1, .iadd, .iaload, .invokevirtual 64, .aload 2, .aload 0, .iload 3, .iconst 1, .iadd, .iaload, .invokevirtual 133, .if_icmp .eq 837, .iconst 0, .freturn, .aload 1, .aload 0, .iload 3, .iconst 1, .iadd, .iaload, .aload 0, .iload 3, .iconst 2, .iadd, .iaload, .invokevirtual 65, .aload 2, .aload 0, .iload 3, .iconst 1, .iadd, .iaload, .aload 0, .iload 3, .iconst 2, .iadd, .iaload, .invokevirtual 136, .if_icmp .eq 837, .iconst 0, .freturn, .aload 1, .aload 0, .iload 3, .iconst 1, .iadd, .iaload, .invokevirtual 66, .aload 2, .aload 0, .iload 3, .iconst 1, .iadd, .iaload, .invokevirtual 137, .if_icmp .eq 837, .iconst 0, .freturn, .aload 1, .aload 0, .iload 3, .iconst 1, .iadd, .iaload, .invokevirtual 67, .aload 2, .aload 0, .iload 3, .iconst 1, .iadd, .iaload, .invokevirtual 138, .if_icmp .eq 837, .iconst 0, .freturn, .aload 1, .aload 0, .iload 3, .iconst 1, .iadd, .iaload, .aload 0, .iload 3, .iconst 2, .iadd, .iaload, .ifCond .eq 270, .iconst 1, .goto 271, .iconst 0, .invokevirtual 68, .aload 2, .aload 0, .iload 3, .iconst 1, .iadd, .iaload, .aload 0, .iload 3, .iconst 2, .iadd, .iaload, .ifCond .eq 286, .iconst 1, .goto 287, .iconst 0, .invokevirtual 139, .if_icmp .eq 837, .iconst 0, .freturn, .aload 1, .aload 0, .iload 3, .iconst 1, .iadd, .iaload, .invokevirtual 69, .aload 2, .aload 0, .iload 3, .iconst 1, .iadd, .iaload, .invokevirtual 140, .if_icmp .eq 837, .iconst 0, .freturn, .aload 1, .invokevirtual 70, .aload 2, .invokevirtual 141, .if_icmp .eq 837, .iconst 0, .freturn, .aload 1, .invokevirtual 71, .aload 2, .invokevirtual 142, .if_icmp .eq 837, .iconst 0, .freturn, .aload 1, .aload 0, .iload 3, .iconst 1, .iadd, .iaload, .invokevirtual 72, .aload 2, .aload 0, .iload 3, .iconst 1, .iadd, .iaload, .invokevirtual 144, .if_icmp .eq 837, .iconst 0, .freturn, .aload 1, .aload 0, .iload 3, .iconst 1, .iadd, .iaload, .aload 0, .iload 3, .iconst 2, .iadd, .iaload, .aload 0, .iload 3, .iconst 3, .iadd, .iaload, .aload 0, .iload 3, .iconst 4, .iadd, .iaload, .invokevirtual 73, .aload 2, .aload 0, .iload 3, .iconst 1, .iadd, .iaload, .aload 0, .iload 3, .iconst 2, .iadd, .iaload, .aload 0, .iload 3, .iconst 3, .iadd, .iaload, .aload 0, .iload 3, .iconst 4, .iadd, .iaload, .invokevirtual 147, .if_icmp .eq 837, .iconst 0, .freturn, .aload 1, .aload 0, .iload 3, .iconst 1, .iadd, .iaload, .aload 0, .iload 3, .iconst 2, .iadd, .iaload, .aload 0, .iload 3, .iconst 3, .iadd, .iaload, .ifCond .eq 405, .iconst 1, .goto 406, .iconst 0, .invokevirtual 74, .aload 2, .aload 0, .iload 3, .iconst 1, .iadd, .iaload, .aload 0, .iload 3, .iconst 2, .iadd, .iaload, .aload 0, .iload 3, .iconst 3, .iadd, .iaload, .ifCond .eq 426, .iconst 1, .goto 427, .iconst 0, .invokevirtual 153, .if_icmp .eq 837, .iconst 0, .freturn, .aload 1, .aload 0, .iload 3, .iconst 1, .iadd, .iaload, .invokevirtual 75, .aload 2, .aload 0, .iload 3, .iconst 1, .iadd, .iaload, .invokevirtual 154, .if_icmp .eq 837, .iconst 0, .freturn, .aload 1, .aload 0, .iload 3, .iconst 1, .iadd, .iaload, .aload 0, .iload 3, .iconst 2, .iadd, .iaload, .invokevirtual 76, .aload 2, .aload 0, .iload 3, .iconst 1, .iadd, .iaload, .aload 0, .iload 3, .iconst 2, .iadd, .iaload, .invokevirtual 156, .if_icmp .eq 837, .iconst 0, .freturn, .aload 1, .aload 0, .iload 3, .iconst 1, .iadd, .iaload, .invokevirtual 77, .aload 2, .aload 0, .iload 3, .iconst 1, .iadd, .iaload, .invokevirtual 158, .if_icmp .eq 837, .iconst 0, .freturn, .aload 1, .aload 0, .iload 3, .iconst 1, .iadd, .iaload, .aload 0, .iload 3, .iconst 2, .iadd, .iaload, .invokevirtual 78, .aload 2, .aload 0, .iload 3, .iconst 1, .iadd, .iaload, .aload 0, .iload 3, .iconst 2, .iadd, .iaload, .invokevirtual 160, .if_icmp .eq 837, .iconst 0, .freturn, .aload 1, .aload 0, .iload 3, .iconst 1, .iadd, .iaload, .aload 0, .iload 3, .iconst 2, .iadd, .iaload, .aload 0, .iload 3, .iconst 3, .iadd, .iaload, .invokevirtual 79, .aload 2, .aload 0, .iload 3, .iconst 1, .iadd, .iaload, .aload 0, .iload 3, .iconst 2, .iadd, .iaload, .aload 0, .iload 3, .iconst 3, .iadd, .iaload, .invokevirtual 161, .if_icmp .eq 837, .iconst 0, .freturn, .aload 1, .invokevirtual 80, .aload 2, .invokevirtual 162, .if_icmp .eq 837, .iconst 0, .freturn, .aload 1, .aload 0, .iload 3, .iconst 1, .iadd, .iaload, .invokevirtual 81, .aload 2, .aload 0, .iload 3, .iconst 1, .iadd, .iaload, .invokevirtual 163, .if_icmp .eq 837, .iconst 0, .freturn, .aload 1, .aload 0, .iload 3, .iconst 1, .iadd, .iaload, .aload 0, .iload 3, .iconst 2, .iadd, .iaload, .aload 0, .iload 3, .iconst 3, .iadd, .iaload, .ifCond .eq 599, .iconst 1, .goto 600, .iconst 0, .invokevirtual 82, .aload 2, .aload 0, .iload 3, .iconst 1, .iadd, .iaload, .aload 0, .iload 3, .iconst 2, .iadd, .iaload, .aload 0, .iload 3, .iconst 3, .iadd, .iaload, .ifCond .eq 620, .iconst 1, .goto 621, .iconst 0, .invokevirtual 167, .if_icmp .eq 837, .iconst 0, .freturn, .aload 1, .aload 0, .iload 3, .iconst 1, .iadd, .iaload, .aload 0, .iload 3, .iconst 2, .iadd, .iaload, .aload 0, .iload 3, .iconst 3, .iadd, .iaload, .invokevirtual 83, .aload 2, .aload 0, .iload 3, .iconst 1, .iadd, .iaload, .aload 0, .iload 3, .iconst 2, .iadd, .iaload, .aload 0, .iload 3, .iconst 3, .iadd, .iaload, .invokevirtual 170, .if_icmp .eq 837, .iconst 0, .freturn, .aload 1, .aload 0, .iload 3, .iconst 1, .iadd, .iaload, .aload 0, .iload 3, .iconst 2, .iadd, .iaload, .aload 0, .iload 3, .iconst 3, .iadd, .iaload, .aload 0, .iload 3, .iconst 4, .iadd, .iaload, .aload 0, .iload 3, .iconst 5, .iadd, .iaload, .ifCond .eq 691, .iconst 1, .goto 692, .iconst 0, .invokevirtual 84, .aload 2, .aload 0, .iload 3, .iconst 1, .iadd, .iaload, .aload 0, .iload 3, .iconst 2, .iadd, .iaload, .aload 0, .iload 3, .iconst 3, .iadd, .iaload, .aload 0, .iload 3, .iconst 4, .iadd, .iaload, .aload 0, .iload 3, .iconst 5, .iadd, .iaload, .ifCond .eq 722, .iconst 1, .goto 723, .iconst 0, .invokevirtual 171, .if_icmp .eq 837, .iconst 0, .freturn, .aload 1, .aload 0, .iload 3, .iconst 1, .iadd, .iaload, .i2l, .iconst 32, .lshl, .aload 0, .iload 3, .iconst 2, .iadd, .iaload, .i2l, .ldc2_w 4294967295, .land, .lor, .invokevirtual 85, .aload 2, .aload 0, .iload 3, .iconst 1, .iadd, .iaload, .i2l, .iconst 32, .lshl, .aload 0, .iload 3, .iconst 2, .iadd, .iaload, .i2l, .ldc2_w 4294967295, .land, .lor, .invokevirtual 172, .lcmp, .ifCond .eq 837, .iconst 0, .freturn, .aload 1, .aload 0, .iload 3, .iconst 1, .iadd, .iaload, .invokevirtual 86, .aload 2, .aload 0, .iload 3, .iconst 1, .iadd, .iaload, .invokevirtual 173, .if_icmp .eq 837, .iconst 0, .freturn, .aload 1, .aload 0, .iload 3, .iconst 1, .iadd, .iaload, .invokevirtual 87, .aload 2, .aload 0, .iload 3, .iconst 1, .iadd, .iaload, .invokevirtual 174, .if_icmp .eq 837, .iconst 0, .freturn, .aload 1, .aload 0, .iload 3, .iconst 1, .iadd, .iaload, .invokevirtual 88, .aload 2, .aload 0, .iload 3, .iconst 1, .iadd, .iaload, .invokevirtual 175, .if_icmp .eq 837, .iconst 0, .freturn, .aload 1, .aload 0, .iload 3, .iconst 1, .iadd, .iaload, .invokevirtual 89, .aload 2, .aload 0, .iload 3, .iconst 1, .iadd, .iaload, .invokevirtual 176, .if_icmp .eq 837, .iconst 0, .freturn, .iinc 3 6, .goto 10, .iconst 1, .freturn]
def k_X0_init : List Instr := [.aload 0, .monitorexit, .aload 0, .iconst 14, .anewarray 0, .putstatic 0, .iconst 0, .istore 1, .iload 1, .iconst 14, .if_icmp .ge 20, .aload 0, .getstatic 0, .iload 1, .new 264, .dup, .invokespecial 35, .aastore, .iinc 1 1, .goto 8, .return_]
def k_X0_forgetAll : List Instr := [.aload 0, .iconst 0, .putfield 1, .aload 0, .iconst 0, .putfield 2, .return_]
def k_X0_add : List Instr := [.aload 0, .getstatic 0, .aload 0, .getfield 1, .aload 0, .getfield 2, .iadd, .iconst 14, .irem, .aaload, .aload 1, .invokevirtual 37, .aload 0, .getfield 2, .iconst 14, .if_icmp .ge 23, .aload 0, .dup, .getfield 2, .iconst 1, .iadd, .putfield 2, .goto 31, .aload 0, .aload 0, .getfield 1, .iconst 1, .iadd, .iconst 14, .irem, .putfield 1, .return_]
def k_X0_takeLast : List Instr := [.aload 0, .getfield 2, .ifCond .le 21, .aload 0, .dup, .getfield 2, .iconst 1, .isub, .putfield 2, .aload 1, .aload 0, .getstatic 0, .aload 0, .getfield 1, .aload 0, .getfield 2, .iadd, .iconst 14, .irem, .aaload, .invokevirtual 37, .return_]
def k_X1_init : List Instr := [.aload 0, .monitorexit, .aload 0, .iconst 5, .newarray .int, .putstatic 69, .aload 0, .iconst 5, .newarray .int, .putstatic 70, .aload 0, .iconst 9, .newarray .int, .putstatic 71, .aload 0, .iconst 5, .newarray .int, .putstatic 72, .aload 0, .iconst 5, .newarray .int, .putstatic 73, .aload 0, .iconst 8, .newarray .int, .putstatic 74, .return_]
def k_X1_read : List Instr := [.aload 0, .iconst 0, .putfield 64, .aload 0, .iconst 0, .putfield 65, .aload 0, .iconst 0, .putfield 66, .aload 0, .iconst 0, .putfield 67, .aload 0, .iconst 0, .putfield 75, .iconst 0, .istore 3, .iload 3, .iload 2, .if_icmp .ge 35, .iload 3, .aload 1, .arraylength, .if_icmp .ge 35, .aload 0, .aload 1, .iload 3, .iaload, .iload 3, .invokevirtual 7, .ifCond .ne 33, .iload 3, .ireturn, .iinc 3 1, .goto 17, .iload 2, .iconst 2, .if_icmp .lt 41, .aload 0, .getfield 75, .ifCond .eq 43, .iload 2, .goto 44, .iconst (-9), .ireturn]
def k_X1_takes : List Instr := [.iload 2, .ifCond .ne 9, .iload 1, .iconst 67, .if_icmp .ne 7, .iconst 1, .goto 8, .iconst 0, .freturn, .iload 2, .iconst 1, .if_icmp .ne 27, .aload 0, .iload 1, .iconst 48, .isub, .putfield 68, .iload 1, .iconst 48, .if_icmp .eq 23, .iload 1, .iconst 49, .if_icmp .ne 25, .iconst 1, .goto 26, .iconst 0, .freturn, .aload 0, .getfield 75, .ifCond .ne 40, .aload 0, .iload 1, .putfield 75, .aload 0, .iconst 0, .putfield 76, .aload 0, .iload 1, .invokevirtual 8, .freturn, .aload 0, .iload 1, .invokevirtual 9, .freturn]
def k_X1_mayStart : List Instr := [.iload 1, .lookupswitch 37 #[(66, 21), (71, 2), (76, 10), (86, 29)], .aload 0, .getfield 64, .iconst 5, .if_icmp .ge 8, .iconst 1, .goto 9, .iconst 0, .freturn, .aload 0, .getfield 65, .iconst 3, .if_icmp .ge 19, .aload 0, .getfield 64, .ifCond .le 19, .iconst 1, .goto 20, .iconst 0, .freturn, .aload 0, .getfield 66, .iconst 5, .if_icmp .ge 27, .iconst 1, .goto 28, .iconst 0, .freturn, .aload 0, .getfield 67, .iconst 2, .if_icmp .ge 35, .iconst 1, .goto 36, .iconst 0, .freturn, .iconst 0, .freturn]
def k_X1_goesOn : List Instr := [.aload 0, .getfield 75, .lookupswitch 19 #[(66, 11), (71, 3), (76, 7), (86, 15)], .aload 0, .iload 1, .invokevirtual 10, .freturn, .aload 0, .iload 1, .invokevirtual 11, .freturn, .aload 0, .iload 1, .invokevirtual 12, .freturn, .aload 0, .iload 1, .invokevirtual 13, .freturn, .iconst 0, .freturn]
def k_X1_takesGate : List Instr := [.aload 0, .getfield 64, .iconst 5, .if_icmp .lt 6, .iconst 0, .freturn, .aload 0, .getfield 76, .ifCond .ne 23, .aload 0, .iconst 1, .putfield 76, .aload 0, .getstatic 69, .aload 0, .getfield 64, .iload 1, .iconst 97, .isub, .iastore, .iload 1, .invokestatic 14, .freturn, .aload 0, .getstatic 70, .aload 0, .getfield 64, .iload 1, .iconst 48, .isub, .iastore, .aload 0, .dup, .getfield 64, .iconst 1, .iadd, .putfield 64, .aload 0, .iconst 0, .putfield 75, .iload 1, .iconst 48, .isub, .invokestatic 91, .freturn]
def k_X1_takesLane : List Instr := [.aload 0, .getfield 65, .iconst 3, .imul, .aload 0, .getfield 76, .iadd, .istore 2, .iload 2, .aload 0, .getstatic 71, .arraylength, .if_icmp .ge 19, .aload 0, .iload 1, .iconst 48, .isub, .invokevirtual 15, .ifCond .ne 21, .iconst 0, .freturn, .aload 0, .getstatic 71, .iload 2, .iload 1, .iconst 48, .isub, .iastore, .aload 0, .dup, .getfield 76, .iconst 1, .iadd, .putfield 76, .aload 0, .getfield 76, .iconst 3, .if_icmp .ne 47, .aload 0, .dup, .getfield 65, .iconst 1, .iadd, .putfield 65, .aload 0, .iconst 0, .putfield 75, .iconst 1, .freturn]
def k_X1_takesBeast : List Instr := [.aload 0, .getfield 66, .iconst 5, .if_icmp .lt 6, .iconst 0, .freturn, .aload 0, .getfield 76, .ifCond .ne 30, .aload 0, .iconst 1, .putfield 76, .aload 0, .getstatic 72, .aload 0, .getfield 66, .iload 1, .iconst 48, .isub, .iastore, .iload 1, .iconst 49, .if_icmp .lt 28, .iload 1, .iconst 57, .if_icmp .gt 28, .iconst 1, .goto 29, .iconst 0, .freturn, .aload 0, .getstatic 73, .aload 0, .getfield 66, .iload 1, .iconst 48, .isub, .iastore, .aload 0, .dup, .getfield 66, .iconst 1, .iadd, .putfield 66, .aload 0, .iconst 0, .putfield 75, .iload 1, .iconst 48, .isub, .invokestatic 91, .freturn]
def k_X1_takesVerse : List Instr := [.aload 0, .getfield 67, .iconst 4, .imul, .aload 0, .getfield 76, .iadd, .istore 2, .iload 2, .aload 0, .getstatic 74, .arraylength, .if_icmp .ge 19, .iload 1, .iconst 45, .if_icmp .eq 21, .iload 1, .invokestatic 14, .ifCond .ne 21, .iconst 0, .freturn, .aload 0, .getstatic 74, .iload 2, .iload 1, .iconst 45, .if_icmp .ne 29, .iconst 12, .goto 32, .iload 1, .iconst 97, .isub, .iastore, .aload 0, .dup, .getfield 76, .iconst 1, .iadd, .putfield 76, .aload 0, .getfield 76, .iconst 4, .if_icmp .ne 52, .aload 0, .dup, .getfield 67, .iconst 1, .iadd, .putfield 67, .aload 0, .iconst 0, .putfield 75, .iconst 1, .freturn]
def k_X1_isNote : List Instr := [.iload 0, .iconst 97, .if_icmp .lt 8, .iload 0, .iconst 108, .if_icmp .gt 8, .iconst 1, .goto 9, .iconst 0, .freturn]
def k_X1_isGate : List Instr := [.iload 1, .ifCond .lt 8, .iload 1, .aload 0, .getfield 64, .if_icmp .ge 8, .iconst 1, .goto 9, .iconst 0, .freturn]
def k_X1_isLane : List Instr := [.iload 1, .ifCond .lt 8, .iload 1, .aload 0, .getfield 65, .if_icmp .ge 8, .iconst 1, .goto 9, .iconst 0, .freturn]
def k_X1_isBeast : List Instr := [.iload 1, .ifCond .lt 8, .iload 1, .aload 0, .getfield 66, .if_icmp .ge 8, .iconst 1, .goto 9, .iconst 0, .freturn]
def k_X1_isVerse : List Instr := [.iload 1, .ifCond .lt 8, .iload 1, .aload 0, .getfield 67, .if_icmp .ge 8, .iconst 1, .goto 9, .iconst 0, .freturn]
def k_X1_gatesOf : List Instr := [.iconst 0, .istore 2, .iconst 0, .istore 3, .iload 3, .iconst 3, .if_icmp .ge 22, .iload 2, .iconst 1, .aload 0, .getstatic 71, .iload 1, .iconst 3, .imul, .iload 3, .iadd, .iaload, .ishl, .ior, .istore 2, .iinc 3 1, .goto 4, .iload 2, .ireturn]
def k_X1_lanesWith : List Instr := [.iconst 0, .istore 2, .iconst 0, .istore 3, .iload 3, .aload 0, .getfield 65, .if_icmp .ge 22, .iload 2, .aload 0, .iload 3, .invokevirtual 19, .iload 1, .ishr, .iconst 1, .iand, .iload 3, .ishl, .ior, .istore 2, .iinc 3 1, .goto 4, .iload 2, .ireturn]
def k_X1_verseBits : List Instr := [.iconst 0, .istore 2, .iconst 0, .istore 3, .iload 3, .iconst 4, .if_icmp .ge 22, .iload 2, .iconst 1, .aload 0, .getstatic 74, .iload 1, .iconst 4, .imul, .iload 3, .iadd, .iaload, .ishl, .ior, .istore 2, .iinc 3 1, .goto 4, .iload 2, .iconst (-4097), .iand, .ireturn]
def k_X1_toneBy : List Instr := [.aload 0, .getstatic 70, .iload 2, .iaload, .iconst 3, .if_icmp .ne 11, .iload 3, .iconst 5, .if_icmp .ge 11, .iconst 1, .goto 12, .iconst 0, .istore 5, .iload 5, .ifCond .ne 25, .aload 1, .getfield 258, .aload 1, .getfield 259, .ior, .iload 2, .ishr, .iconst 1, .iand, .ifCond .eq 27, .iconst 12, .ireturn, .aload 1, .iload 2, .invokevirtual 38, .iload 3, .iload 4, .iconst 3, .if_icmp .ne 36, .iconst 4, .goto 37, .iconst 2, .idiv, .iadd, .iconst 4, .aload 1, .getfield 261, .imul, .iadd, .istore 6, .aload 0, .getstatic 70, .iload 2, .iaload, .iconst 2, .if_icmp .ne 57, .iload 6, .aload 1, .iload 2, .invokevirtual 40, .isub, .istore 6, .iload 4, .iconst 2, .if_icmp .ne 61, .iinc 6 (-5), .iload 6, .iconst 12, .invokestatic 178, .ireturn]
def k_X1_sing : List Instr := [.aload 4, .iconst 0, .putfield 385, .iconst 0, .istore 5, .iload 5, .iconst 3, .if_icmp .ge 68, .aload 0, .getstatic 71, .iload 3, .iconst 3, .imul, .iload 5, .iadd, .iaload, .istore 6, .aload 0, .aload 1, .iload 6, .aload 0, .getstatic 72, .iload 2, .iaload, .aload 0, .getstatic 73, .iload 2, .iaload, .invokevirtual 22, .istore 7, .aload 0, .getstatic 70, .iload 6, .iaload, .iconst 1, .if_icmp .ne 38, .iconst 2, .goto 39, .iconst 1, .istore 8, .iconst 0, .istore 9, .iload 9, .iload 8, .if_icmp .ge 66, .aload 4, .iload 7, .invokevirtual 51, .aload 0, .getstatic 73, .iload 2, .iaload, .iconst 1, .if_icmp .ne 64, .iload 7, .iconst 12, .if_icmp .eq 64, .aload 4, .iload 7, .iconst 1, .iadd, .iconst 12, .irem, .invokevirtual 51, .iinc 9 1, .goto 42, .iinc 5 1, .goto 5, .return_]
def k_X1_canGoHome : List Instr := [.aload 0, .iload 2, .invokevirtual 17, .ifCond .eq 14, .aload 0, .iload 3, .invokevirtual 16, .ifCond .eq 14, .aload 1, .iload 2, .invokevirtual 42, .ifCond .ne 14, .iconst 1, .goto 15, .iconst 0, .freturn]
def k_X1_sendHome : List Instr := [.aload 0, .aload 1, .iload 2, .iload 3, .aload 4, .invokevirtual 23, .iconst 0, .istore 5, .iload 5, .aload 4, .getfield 385, .if_icmp .ge 20, .aload 1, .aload 4, .getstatic 384, .iload 5, .iaload, .invokevirtual 44, .iinc 5 1, .goto 8, .iconst 0, .istore 5, .iload 5, .iconst 3, .if_icmp .ge 37, .aload 1, .aload 0, .getstatic 71, .iload 3, .iconst 3, .imul, .iload 5, .iadd, .iaload, .invokevirtual 41, .iinc 5 1, .goto 22, .aload 1, .dup, .getfield 260, .iconst 1, .iload 2, .ishl, .ior, .putfield 260, .return_]
def k_X1_fitBehind : List Instr := [.iconst 0, .istore 4, .iconst 0, .istore 5, .iload 5, .iconst 4, .if_icmp .ge 45, .iload 5, .aload 2, .getfield 385, .if_icmp .ge 21, .aload 2, .getstatic 384, .aload 2, .getfield 385, .iconst 1, .isub, .iload 5, .isub, .iaload, .goto 27, .aload 1, .iload 5, .aload 2, .getfield 385, .isub, .invokevirtual 45, .istore 6, .iload 6, .aload 0, .getstatic 74, .iload 3, .iconst 4, .imul, .iconst 4, .iadd, .iconst 1, .isub, .iload 5, .isub, .iaload, .if_icmp .ne 43, .iinc 4 1, .iinc 5 1, .goto 4, .iload 4, .ireturn]
def k_X2_init : List Instr := [.aload 0, .monitorexit, .aload 0, .iconst 6, .newarray .int, .putstatic 128, .aload 0, .iconst 6, .newarray .int, .putstatic 129, .aload 0, .iconst 6, .newarray .int, .putstatic 130, .return_]
def k_X2_add : List Instr := [.aload 0, .getfield 131, .iconst 6, .if_icmp .ge 28, .aload 0, .getstatic 128, .aload 0, .getfield 131, .iload 1, .iastore, .aload 0, .getstatic 129, .aload 0, .getfield 131, .iload 2, .iastore, .aload 0, .getstatic 130, .aload 0, .getfield 131, .iload 3, .iastore, .aload 0, .dup, .getfield 131, .iconst 1, .iadd, .putfield 131, .return_]
def k_X2_agrees : List Instr := [.iconst 0, .istore 5, .iload 5, .aload 0, .getfield 131, .if_icmp .ge 43, .aload 0, .getstatic 128, .iload 5, .iaload, .iload 4, .if_icmp .ne 21, .aload 1, .aload 0, .getstatic 129, .iload 5, .iaload, .invokevirtual 15, .ifCond .eq 21, .iconst 1, .goto 22, .iconst 0, .istore 6, .iload 6, .ifCond .eq 41, .aload 1, .aload 2, .aload 0, .getstatic 129, .iload 5, .iaload, .iload 3, .iload 4, .invokevirtual 22, .aload 0, .getstatic 130, .iload 5, .iaload, .if_icmp .eq 41, .iconst 0, .freturn, .iinc 5 1, .goto 2, .iconst 1, .freturn]
def k_X3_init : List Instr := [.aload 0, .monitorexit, .aload 0, .iconst 9, .newarray .int, .putstatic 192, .aload 0, .iconst 9, .newarray .int, .putstatic 193, .return_]
def k_X3_meet : List Instr := [.iload 1, .iconst 3, .imul, .iload 3, .iadd, .istore 5, .iload 5, .ifCond .lt 13, .iload 5, .aload 0, .getstatic 192, .arraylength, .if_icmp .lt 14, .return_, .iload 1, .iload 3, .if_icmp .ne 28, .aload 0, .getstatic 192, .iload 5, .iconst 0, .iastore, .aload 0, .getstatic 193, .iload 5, .iconst 0, .iastore, .return_, .aload 2, .aload 4, .invokevirtual 54, .istore 6, .aload 0, .getstatic 192, .iload 5, .iload 6, .aload 2, .invokestatic 34, .ifCond .eq 41, .iconst 1, .goto 42, .iconst 0, .iadd, .iastore, .aload 0, .getstatic 193, .iload 5, .iload 6, .aload 4, .invokestatic 34, .ifCond .eq 53, .iconst 1, .goto 54, .iconst 0, .iadd, .iastore, .return_]
def k_X3_settle : List Instr := [.aload 0, .iconst 0, .putfield 194, .aload 0, .iconst (-9), .putfield 195, .iconst 0, .istore 2, .iload 2, .iload 1, .if_icmp .ge 45, .iconst 0, .istore 3, .iload 3, .iload 1, .if_icmp .ge 43, .aload 0, .iload 2, .iload 3, .iload 1, .invokevirtual 33, .ifCond .eq 41, .aload 0, .aload 0, .getfield 194, .ifCond .ne 32, .iconst 10, .iload 2, .imul, .iload 3, .iadd, .goto 34, .aload 0, .getfield 195, .putfield 195, .aload 0, .dup, .getfield 194, .iconst 1, .iadd, .putfield 194, .iinc 3 1, .goto 13, .iinc 2 1, .goto 8, .return_]
def k_X3_isAtRest : List Instr := [.iload 1, .iconst 3, .imul, .iload 2, .iadd, .istore 4, .iconst 0, .istore 5, .iload 5, .iload 3, .if_icmp .ge 41, .aload 0, .getstatic 192, .iload 5, .iconst 3, .imul, .iload 2, .iadd, .iaload, .aload 0, .getstatic 192, .iload 4, .iaload, .if_icmp .gt 37, .aload 0, .getstatic 193, .iload 1, .iconst 3, .imul, .iload 5, .iadd, .iaload, .aload 0, .getstatic 193, .iload 4, .iaload, .if_icmp .le 39, .iconst 0, .freturn, .iinc 5 1, .goto 8, .iconst 1, .freturn]
def k_X3_isUnbroken : List Instr := [.aload 0, .invokevirtual 52, .aload 0, .getfield 385, .if_icmp .ne 7, .iconst 1, .goto 8, .iconst 0, .freturn]
def k_X4_init : List Instr := [.aload 0, .monitorexit, .return_]
def k_X4_begin : List Instr := [.aload 0, .iconst 0, .putfield 256, .iconst 0, .istore 2, .iload 2, .aload 1, .getfield 64, .if_icmp .ge 18, .aload 0, .iload 2, .aload 1, .getstatic 69, .iload 2, .iaload, .invokevirtual 39, .iinc 2 1, .goto 5, .aload 0, .iconst 0, .putfield 257, .aload 0, .iconst 0, .putfield 258, .aload 0, .iconst 0, .putfield 259, .aload 0, .iconst 0, .putfield 260, .aload 0, .aload 1, .getfield 68, .putfield 261, .aload 0, .ldc2_w 0, .dstore 262, .aload 0, .iconst 0, .putfield 263, .return_]
def k_X4_become : List Instr := [.aload 0, .aload 1, .getfield 256, .putfield 256, .aload 0, .aload 1, .getfield 257, .putfield 257, .aload 0, .aload 1, .getfield 258, .putfield 258, .aload 0, .aload 1, .getfield 259, .putfield 259, .aload 0, .aload 1, .getfield 260, .putfield 260, .aload 0, .aload 1, .getfield 261, .putfield 261, .aload 0, .aload 1, .dload 262, .dstore 262, .aload 0, .aload 1, .getfield 263, .putfield 263, .return_]
def k_X4_noteOf : List Instr := [.aload 0, .getfield 256, .iconst 4, .iload 1, .imul, .ishr, .iconst 15, .iand, .ireturn]
def k_X4_setNote : List Instr := [.aload 0, .aload 0, .getfield 256, .iconst 15, .iconst 4, .iload 1, .imul, .ishl, .iconst (-1), .ixor, .iand, .iload 2, .iconst 4, .iload 1, .imul, .ishl, .ior, .putfield 256, .return_]
def k_X4_passedOf : List Instr := [.aload 0, .getfield 257, .iconst 2, .iload 1, .imul, .ishr, .iconst 3, .iand, .ireturn]
def k_X4_pass : List Instr := [.aload 0, .iload 1, .invokevirtual 40, .iconst 3, .if_icmp .ge 15, .aload 0, .dup, .getfield 257, .iconst 1, .iconst 2, .iload 1, .imul, .ishl, .iadd, .putfield 257, .return_]
def k_X4_isHome : List Instr := [.aload 0, .getfield 260, .iload 1, .ishr, .iconst 1, .iand, .ifCond .eq 9, .iconst 1, .goto 10, .iconst 0, .freturn]
def k_X4_homeCount : List Instr := [.aload 0, .getfield 260, .invokestatic 177, .ireturn]
def k_X4_addSung : List Instr := [.aload 0, .aload 0, .dload 262, .iconst 4, .lshl, .iload 1, .i2l, .lor, .dstore 262, .aload 0, .aload 0, .getfield 263, .iconst 1, .iadd, .iconst 12, .invokestatic 180, .putfield 263, .return_]
def k_X4_fromLast : List Instr := [.iload 1, .aload 0, .getfield 263, .if_icmp .ge 14, .aload 0, .dload 262, .iconst 4, .iload 1, .imul, .lushr, .l2i, .iconst 15, .iand, .goto 15, .iconst (-9), .ireturn]
def k_X5_init : List Instr := [.aload 0, .monitorexit, .aload 0, .iconst 2, .anewarray 0, .putstatic 320, .aload 0, .new 386, .dup, .invokespecial 50, .putstatic 321, .iconst 0, .istore 1, .iload 1, .aload 0, .getstatic 320, .arraylength, .if_icmp .ge 27, .aload 0, .getstatic 320, .iload 1, .new 264, .dup, .invokespecial 35, .aastore, .iinc 1 1, .goto 13, .return_]
def k_X5_look : List Instr := [.aload 0, .iconst (-9), .putfield 322, .aload 0, .iconst (-9), .putfield 323, .aload 0, .aload 1, .aload 2, .iload 3, .iload 4, .iconst 3, .invokestatic 180, .iconst 0, .invokestatic 48, .return_]
def k_X5_tryRows : List Instr := [.iconst 0, .istore 6, .iload 6, .aload 1, .getfield 66, .if_icmp .ge 85, .aload 2, .iload 6, .invokevirtual 42, .ifCond .eq 11, .goto 83, .iconst 0, .istore 7, .iload 7, .aload 1, .getfield 65, .if_icmp .ge 83, .aload 0, .getfield 322, .iconst 4, .if_icmp .ge 83, .iconst 100, .iload 5, .imul, .iconst 10, .iload 6, .iconst 1, .iadd, .imul, .iadd, .iload 7, .iadd, .iconst 1, .iadd, .istore 8, .iload 4, .iconst 1, .if_icmp .gt 55, .aload 1, .aload 2, .iload 6, .iload 7, .aload 0, .getstatic 321, .invokevirtual 23, .aload 0, .aload 1, .aload 2, .aload 0, .getstatic 321, .iload 3, .invokevirtual 26, .iload 8, .invokevirtual 49, .goto 81, .aload 0, .getstatic 320, .iload 4, .iconst 2, .isub, .aaload, .astore 9, .aload 9, .aload 2, .invokevirtual 37, .aload 1, .aload 9, .iload 6, .iload 7, .aload 0, .getstatic 321, .invokevirtual 25, .aload 0, .aload 1, .aload 9, .iload 3, .iload 4, .iconst 1, .isub, .iload 8, .invokestatic 48, .iinc 7 1, .goto 13, .iinc 6 1, .goto 2, .return_]
def k_X5_take : List Instr := [.iload 1, .aload 0, .getfield 322, .if_icmp .le 10, .aload 0, .iload 1, .putfield 322, .aload 0, .iload 2, .putfield 323, .return_]
def k_X6_init : List Instr := [.aload 0, .monitorexit, .aload 0, .iconst 12, .newarray .int, .putstatic 384, .return_]
def k_X6_add : List Instr := [.aload 0, .getfield 385, .iconst 12, .if_icmp .ge 16, .aload 0, .getstatic 384, .aload 0, .getfield 385, .iload 1, .iastore, .aload 0, .dup, .getfield 385, .iconst 1, .iadd, .putfield 385, .return_]
def k_X6_toneCount : List Instr := [.iconst 0, .istore 1, .iconst 0, .istore 2, .iload 2, .aload 0, .getfield 385, .if_icmp .ge 22, .iload 1, .aload 0, .getstatic 384, .iload 2, .iaload, .iconst 12, .if_icmp .eq 17, .iconst 1, .goto 18, .iconst 0, .iadd, .istore 1, .iinc 2 1, .goto 4, .iload 1, .ireturn]
def k_X6_toneBits : List Instr := [.iconst 0, .istore 1, .iconst 0, .istore 2, .iload 2, .aload 0, .getfield 385, .if_icmp .ge 19, .iload 1, .iconst 1, .aload 0, .getstatic 384, .iload 2, .iaload, .ishl, .ior, .istore 1, .iinc 2 1, .goto 4, .iload 1, .iconst (-4097), .iand, .ireturn]
def k_X6_harmonyWith : List Instr := [.aload 0, .getfield 385, .aload 1, .getfield 385, .invokestatic 180, .istore 2, .iconst 0, .istore 3, .iconst 0, .istore 4, .iload 4, .iload 2, .if_icmp .ge 44, .aload 0, .getstatic 384, .iload 4, .iaload, .iconst 12, .if_icmp .eq 42, .aload 1, .getstatic 384, .iload 4, .iaload, .iconst 12, .if_icmp .eq 42, .iload 3, .iconst 953, .aload 0, .getstatic 384, .iload 4, .iaload, .aload 1, .getstatic 384, .iload 4, .iaload, .isub, .invokestatic 179, .ishr, .iconst 1, .iand, .iadd, .istore 3, .iinc 4 1, .goto 10, .iload 3, .ireturn]
def k_X7_init : List Instr := [.aload 0, .monitorexit, .aload 0, .iconst 60, .newarray .int, .putstatic 448, .aload 0, .new 77, .dup, .invokespecial 5, .putstatic 450, .aload 0, .new 77, .dup, .invokespecial 5, .putstatic 451, .aload 0, .new 264, .dup, .invokespecial 35, .putstatic 452, .aload 0, .new 264, .dup, .invokespecial 35, .putstatic 453, .aload 0, .new 3, .dup, .invokespecial 1, .putstatic 454, .aload 0, .iconst 2, .anewarray 0, .putstatic 455, .iconst 0, .istore 1, .iload 1, .iconst 2, .if_icmp .ge 49, .aload 0, .getstatic 455, .iload 1, .new 264, .dup, .invokespecial 35, .aastore, .iinc 1 1, .goto 37, .aload 0, .iconst 2, .newarray .boolean, .putstatic 456, .aload 0, .new 132, .dup, .invokespecial 27, .putstatic 457, .aload 0, .new 324, .dup, .invokespecial 46, .putstatic 458, .aload 0, .new 196, .dup, .invokespecial 30, .putstatic 459, .aload 0, .new 386, .dup, .invokespecial 50, .putstatic 460, .aload 0, .new 386, .dup, .invokespecial 50, .putstatic 461, .return_]
def k_X7_write : List Instr := [.iload 1, .ifCond .lt 5, .iload 1, .iconst 255, .if_icmp .le 7, .iconst (-2), .ireturn, .aload 0, .getfield 449, .iconst 60, .if_icmp .lt 13, .iconst (-4), .ireturn, .aload 0, .getstatic 448, .aload 0, .getfield 449, .iload 1, .iastore, .aload 0, .dup, .getfield 449, .iconst 1, .iadd, .putfield 449, .aload 0, .getfield 449, .ireturn]
def k_X7_wipe : List Instr := [.aload 0, .getfield 449, .istore 1, .aload 0, .iconst 0, .putfield 449, .iload 1, .ireturn]
def k_X7_fault : List Instr := [.aload 0, .getstatic 451, .aload 0, .getstatic 448, .aload 0, .getfield 449, .invokevirtual 6, .ireturn]
def k_X7_fen : List Instr := [.aload 0, .getstatic 451, .aload 0, .getstatic 448, .aload 0, .getfield 449, .invokevirtual 6, .iconst (-9), .if_icmp .eq 11, .iconst (-3), .ireturn, .aload 0, .getstatic 450, .astore 1, .aload 0, .aload 0, .getstatic 451, .putstatic 450, .aload 0, .aload 1, .putstatic 451, .aload 0, .getstatic 452, .aload 0, .getstatic 450, .invokevirtual 36, .aload 0, .getstatic 454, .invokevirtual 2, .iconst 0, .istore 2, .iload 2, .iconst 2, .if_icmp .ge 41, .aload 0, .getstatic 456, .iload 2, .iconst 0, .bastore, .iinc 2 1, .goto 31, .iconst 1000, .aload 0, .getstatic 450, .getfield 64, .imul, .iconst 100, .aload 0, .getstatic 450, .getfield 65, .imul, .iadd, .iconst 10, .aload 0, .getstatic 450, .getfield 66, .imul, .iadd, .aload 0, .getstatic 450, .getfield 67, .iadd, .ireturn]
def k_X7_gate : List Instr := [.aload 0, .getstatic 450, .iload 1, .invokevirtual 15, .ifCond .ne 7, .iconst (-1), .ireturn, .iload 2, .tableswitch 46 0 5 #[9, 14, 20, 25, 33, 41], .aload 0, .getstatic 452, .iload 1, .invokevirtual 38, .ireturn, .aload 0, .getstatic 450, .getstatic 70, .iload 1, .iaload, .ireturn, .aload 0, .getstatic 452, .iload 1, .invokevirtual 40, .ireturn, .aload 0, .getstatic 452, .getfield 258, .iload 1, .ishr, .iconst 1, .iand, .ireturn, .aload 0, .getstatic 452, .getfield 259, .iload 1, .ishr, .iconst 1, .iand, .ireturn, .aload 0, .getstatic 450, .iload 1, .invokevirtual 20, .ireturn, .iconst (-2), .ireturn]
def k_X7_beast : List Instr := [.aload 0, .getstatic 450, .iload 1, .invokevirtual 17, .ifCond .ne 7, .iconst (-1), .ireturn, .iload 2, .tableswitch 29 0 2 #[9, 15, 21], .aload 0, .getstatic 450, .getstatic 72, .iload 1, .iaload, .ireturn, .aload 0, .getstatic 450, .getstatic 73, .iload 1, .iaload, .ireturn, .aload 0, .getstatic 452, .getfield 260, .iload 1, .ishr, .iconst 1, .iand, .ireturn, .iconst (-2), .ireturn]
def k_X7_tone : List Instr := [.aload 0, .getstatic 450, .iload 1, .invokevirtual 15, .ifCond .eq 10, .aload 0, .getstatic 450, .iload 2, .invokevirtual 17, .ifCond .ne 12, .iconst (-1), .ireturn, .aload 0, .getstatic 450, .aload 0, .getstatic 452, .iload 1, .aload 0, .getstatic 450, .getstatic 72, .iload 2, .iaload, .aload 0, .getstatic 450, .getstatic 73, .iload 2, .iaload, .invokevirtual 22, .ireturn]
def k_X7_song : List Instr := [.aload 0, .getstatic 450, .iload 1, .invokevirtual 17, .ifCond .eq 10, .aload 0, .getstatic 450, .iload 2, .invokevirtual 16, .ifCond .ne 12, .iconst (-1), .ireturn, .iload 3, .ifCond .lt 17, .iload 3, .iconst 12, .if_icmp .le 19, .iconst (-2), .ireturn, .aload 0, .getstatic 450, .aload 0, .getstatic 452, .iload 1, .iload 2, .aload 0, .getstatic 460, .invokevirtual 23, .iload 3, .iconst 12, .if_icmp .ne 35, .aload 0, .getstatic 460, .getfield 385, .ireturn, .iload 3, .aload 0, .getstatic 460, .getfield 385, .if_icmp .ge 46, .aload 0, .getstatic 460, .getstatic 384, .iload 3, .iaload, .goto 47, .iconst (-9), .ireturn]
def k_X7_sung : List Instr := [.iload 1, .ifCond .lt 5, .iload 1, .iconst 12, .if_icmp .lt 7, .iconst (-2), .ireturn, .aload 0, .getstatic 452, .iload 1, .invokevirtual 45, .ireturn]
def k_X7_drive : List Instr := [.aload 0, .getstatic 450, .iload 1, .invokevirtual 17, .ifCond .eq 10, .aload 0, .getstatic 450, .iload 2, .invokevirtual 16, .ifCond .ne 12, .iconst (-1), .ireturn, .aload 0, .getstatic 452, .iload 1, .invokevirtual 42, .ifCond .eq 19, .iconst (-3), .ireturn, .aload 0, .getstatic 454, .aload 0, .getstatic 452, .invokevirtual 3, .aload 0, .getstatic 450, .aload 0, .getstatic 452, .iload 1, .iload 2, .aload 0, .getstatic 460, .invokevirtual 25, .aload 0, .getstatic 460, .invokevirtual 52, .ireturn]
def k_X7_open : List Instr := [.aload 0, .getstatic 450, .iload 1, .invokevirtual 15, .ifCond .ne 7, .iconst (-1), .ireturn, .aload 0, .getstatic 454, .aload 0, .getstatic 452, .invokevirtual 3, .aload 0, .getstatic 452, .dup, .getfield 258, .iconst 1, .iload 1, .ishl, .ixor, .putfield 258, .aload 0, .getstatic 452, .getfield 258, .iload 1, .ishr, .iconst 1, .iand, .ireturn]
def k_X7_oil : List Instr := [.aload 0, .getstatic 450, .iload 1, .invokevirtual 15, .ifCond .ne 7, .iconst (-1), .ireturn, .aload 0, .getstatic 454, .aload 0, .getstatic 452, .invokevirtual 3, .aload 0, .getstatic 452, .dup, .getfield 259, .iconst 1, .iload 1, .ishl, .ixor, .putfield 259, .aload 0, .getstatic 452, .getfield 259, .iload 1, .ishr, .iconst 1, .iand, .ireturn]
def k_X7_hang : List Instr := [.aload 0, .getstatic 450, .iload 1, .invokevirtual 15, .ifCond .ne 7, .iconst (-1), .ireturn, .aload 0, .getstatic 454, .aload 0, .getstatic 452, .invokevirtual 3, .iload 2, .ifCond .eq 16, .iconst 1, .goto 17, .iconst (-1), .istore 3, .aload 0, .getstatic 452, .iload 1, .aload 0, .getstatic 452, .iload 1, .invokevirtual 38, .iload 3, .iadd, .iconst 12, .invokestatic 178, .invokevirtual 39, .aload 0, .getstatic 452, .iload 1, .invokevirtual 38, .ireturn]
def k_X7_turnOut : List Instr := [.aload 0, .getstatic 450, .iload 1, .invokevirtual 17, .ifCond .ne 7, .iconst (-1), .ireturn, .aload 0, .getstatic 452, .iload 1, .invokevirtual 42, .ifCond .ne 14, .iconst (-3), .ireturn, .aload 0, .getstatic 454, .aload 0, .getstatic 452, .invokevirtual 3, .aload 0, .getstatic 452, .dup, .getfield 260, .iconst 1, .iload 1, .ishl, .ixor, .putfield 260, .aload 0, .getstatic 452, .invokevirtual 43, .ireturn]
def k_X7_frost : List Instr := [.aload 0, .getstatic 454, .aload 0, .getstatic 452, .invokevirtual 3, .aload 0, .getstatic 452, .dup, .getfield 261, .iconst 1, .ixor, .putfield 261, .aload 0, .getstatic 452, .getfield 261, .ireturn]
def k_X7_undo : List Instr := [.aload 0, .getstatic 454, .getfield 2, .ifCond .gt 6, .iconst (-3), .ireturn, .aload 0, .getstatic 454, .aload 0, .getstatic 452, .invokevirtual 4, .aload 0, .getstatic 454, .getfield 2, .ireturn]
def k_X7_fit : List Instr := [.aload 0, .getstatic 450, .iload 1, .invokevirtual 18, .ifCond .ne 7, .iconst (-1), .ireturn, .aload 0, .aload 0, .getstatic 452, .iload 1, .invokevirtual 92, .ireturn]
def k_X7_harmony : List Instr := [.aload 0, .getstatic 450, .iload 1, .invokevirtual 17, .ifCond .eq 20, .aload 0, .getstatic 450, .iload 2, .invokevirtual 16, .ifCond .eq 20, .aload 0, .getstatic 450, .iload 3, .invokevirtual 17, .ifCond .eq 20, .aload 0, .getstatic 450, .iload 4, .invokevirtual 16, .ifCond .ne 22, .iconst (-1), .ireturn, .aload 0, .getstatic 450, .aload 0, .getstatic 452, .iload 1, .iload 2, .aload 0, .getstatic 460, .invokevirtual 23, .aload 0, .getstatic 450, .aload 0, .getstatic 452, .iload 3, .iload 4, .aload 0, .getstatic 461, .invokevirtual 23, .aload 0, .getstatic 460, .aload 0, .getstatic 461, .invokevirtual 54, .ireturn]
def k_X7_best : List Instr := [.aload 0, .getstatic 450, .iload 1, .invokevirtual 18, .ifCond .ne 7, .iconst (-1), .ireturn, .iload 2, .iconst 1, .if_icmp .lt 13, .iload 2, .iconst 3, .if_icmp .le 15, .iconst (-2), .ireturn, .aload 0, .getstatic 458, .aload 0, .getstatic 450, .aload 0, .getstatic 452, .iload 1, .iload 2, .invokevirtual 47, .iload 3, .ifCond .eq 30, .aload 0, .getstatic 458, .getfield 323, .goto 33, .aload 0, .getstatic 458, .getfield 322, .ireturn]
def k_X7_fewest : List Instr := [.aload 0, .getstatic 450, .iload 1, .invokevirtual 18, .ifCond .ne 7, .iconst (-1), .ireturn, .aload 0, .aload 0, .getstatic 452, .iload 1, .invokevirtual 92, .iconst 4, .if_icmp .ne 16, .iconst 0, .ireturn, .iconst 1, .istore 2, .iload 2, .iconst 3, .if_icmp .gt 39, .aload 0, .getstatic 458, .aload 0, .getstatic 450, .aload 0, .getstatic 452, .iload 1, .iload 2, .invokevirtual 47, .aload 0, .getstatic 458, .getfield 322, .iconst 4, .if_icmp .ne 37, .iload 2, .ireturn, .iinc 2 1, .goto 18, .iconst (-9), .ireturn]
def k_X7_has : List Instr := [.aload 0, .getstatic 450, .iload 1, .invokevirtual 18, .ifCond .eq 10, .aload 0, .getstatic 450, .iload 2, .invokevirtual 16, .ifCond .ne 12, .iconst (-1), .ireturn, .aload 0, .getstatic 450, .iload 1, .invokevirtual 21, .istore 3, .iconst 0, .istore 4, .iconst 0, .istore 5, .iload 5, .aload 0, .getstatic 450, .getfield 66, .if_icmp .ge 51, .aload 0, .getstatic 450, .aload 0, .getstatic 452, .iload 5, .iload 2, .aload 0, .getstatic 460, .invokevirtual 23, .iload 3, .aload 0, .getstatic 460, .invokevirtual 53, .iconst (-1), .ixor, .iand, .ifCond .ne 49, .iload 4, .iconst 1, .iload 5, .ishl, .ior, .istore 4, .iinc 5 1, .goto 21, .iload 4, .ireturn]
def k_X7_silence : List Instr := [.aload 0, .getstatic 450, .iload 1, .invokevirtual 16, .ifCond .ne 7, .iconst (-1), .ireturn, .iconst 0, .istore 2, .iconst 0, .istore 3, .iload 3, .aload 0, .getstatic 450, .getfield 64, .if_icmp .ge 37, .aload 0, .getstatic 450, .iload 3, .invokevirtual 20, .iload 1, .ishr, .iconst 1, .iand, .ifCond .eq 35, .aload 0, .iload 3, .invokevirtual 93, .ifCond .eq 35, .iload 2, .iconst 1, .iload 3, .ishl, .ior, .istore 2, .iinc 3 1, .goto 11, .iload 2, .ireturn]
def k_X7_judge : List Instr := [.iload 1, .iconst 1, .if_icmp .lt 6, .iload 1, .iconst 4, .if_icmp .le 8, .iconst (-2), .ireturn, .iconst 1, .istore 3, .iconst 1, .istore 4, .iload 4, .iload 1, .if_icmp .ge 21, .iload 3, .iconst 100, .imul, .istore 3, .iinc 4 1, .goto 12, .iload 2, .ifCond .lt 28, .iload 2, .iconst 100, .idiv, .iload 3, .if_icmp .lt 30, .iconst (-2), .ireturn, .aload 0, .getstatic 453, .aload 0, .getstatic 452, .invokevirtual 37, .iconst 0, .istore 4, .iload 4, .iload 1, .if_icmp .ge 67, .iload 3, .ifCond .le 67, .iload 2, .iload 3, .idiv, .iconst 100, .irem, .istore 5, .aload 0, .aload 0, .getstatic 453, .iload 5, .iconst 10, .idiv, .iload 5, .iconst 10, .irem, .invokevirtual 94, .ifCond .ne 61, .iload 4, .ireturn, .iload 3, .iconst 100, .idiv, .istore 3, .iinc 4 1, .goto 37, .iconst (-9), .ireturn]
def k_X7_hear : List Instr := [.aload 0, .getstatic 450, .iload 2, .invokevirtual 15, .ifCond .ne 7, .iconst (-1), .ireturn, .iload 1, .invokestatic 91, .ifCond .eq 15, .iload 3, .ifCond .lt 15, .iload 3, .iconst 12, .if_icmp .le 17, .iconst (-2), .ireturn, .aload 0, .getstatic 457, .getfield 131, .iconst 6, .if_icmp .lt 24, .iconst (-4), .ireturn, .aload 0, .getstatic 457, .iload 1, .iload 2, .iload 3, .invokevirtual 28, .aload 0, .getstatic 457, .getfield 131, .ireturn]
def k_X7_unhear : List Instr := [.aload 0, .getstatic 457, .getfield 131, .istore 1, .aload 0, .getstatic 457, .iconst 0, .putfield 131, .iload 1, .ireturn]
def k_X7_weights : List Instr := [.iload 1, .invokestatic 91, .ifCond .ne 5, .iconst (-2), .ireturn, .iconst 0, .istore 2, .iconst 1, .istore 3, .iload 3, .iconst 9, .if_icmp .gt 30, .aload 0, .getstatic 457, .aload 0, .getstatic 450, .aload 0, .getstatic 452, .iload 3, .iload 1, .invokevirtual 29, .ifCond .eq 28, .iload 2, .iconst 1, .iload 3, .ishl, .ior, .istore 2, .iinc 3 1, .goto 9, .iload 2, .ireturn]
def k_X7_share : List Instr := [.aload 0, .getstatic 450, .iload 1, .invokevirtual 17, .ifCond .eq 10, .aload 0, .getstatic 450, .iload 2, .invokevirtual 16, .ifCond .ne 12, .iconst (-1), .ireturn, .aload 0, .getstatic 450, .aload 0, .getstatic 452, .iload 1, .iload 2, .aload 0, .getstatic 460, .invokevirtual 23, .aload 0, .getstatic 460, .invokevirtual 53, .istore 4, .iconst 0, .istore 5, .iconst 0, .istore 6, .iload 6, .iconst 12, .if_icmp .ge 55, .iload 4, .iload 6, .ishr, .iconst 1, .iand, .ifCond .eq 53, .aload 0, .iload 6, .iload 2, .invokevirtual 99, .istore 7, .iload 5, .iload 7, .ifCond .le 50, .iconst 60, .iload 7, .idiv, .goto 51, .iconst 0, .iadd, .istore 5, .iinc 6 1, .goto 29, .iload 5, .iconst 60, .iload 3, .invokestatic 103, .ireturn]
def k_X7_rests : List Instr := [.aload 0, .getstatic 450, .iload 1, .invokevirtual 17, .ifCond .eq 10, .aload 0, .getstatic 450, .iload 2, .invokevirtual 17, .ifCond .ne 12, .iconst (-1), .ireturn, .iload 1, .iload 2, .if_icmp .eq 20, .iload 3, .ifCond .lt 20, .iload 3, .iconst 1, .if_icmp .le 22, .iconst (-2), .ireturn, .iconst 0, .istore 4, .iload 4, .aload 0, .getstatic 450, .getfield 65, .if_icmp .ge 67, .aload 0, .getstatic 450, .aload 0, .getstatic 452, .iload 1, .iload 4, .aload 0, .getstatic 460, .invokevirtual 23, .iconst 0, .istore 5, .iload 5, .aload 0, .getstatic 450, .getfield 65, .if_icmp .ge 65, .aload 0, .getstatic 450, .aload 0, .getstatic 452, .iload 2, .iload 5, .aload 0, .getstatic 461, .invokevirtual 23, .aload 0, .getstatic 459, .iload 4, .aload 0, .getstatic 460, .iload 5, .aload 0, .getstatic 461, .invokevirtual 31, .iinc 5 1, .goto 40, .iinc 4 1, .goto 24, .aload 0, .getstatic 459, .aload 0, .getstatic 450, .getfield 65, .invokevirtual 32, .iload 3, .ifCond .ne 79, .aload 0, .getstatic 459, .getfield 194, .goto 82, .aload 0, .getstatic 459, .getfield 195, .ireturn]
def k_X7_drips : List Instr := [.aload 0, .getstatic 450, .iload 1, .invokevirtual 17, .ifCond .eq 10, .aload 0, .getstatic 450, .iload 2, .invokevirtual 16, .ifCond .ne 12, .iconst (-1), .ireturn, .iload 3, .ifCond .lt 22, .iload 3, .iconst 12, .if_icmp .gt 22, .iload 4, .ifCond .lt 22, .iload 4, .iconst 10, .if_icmp .le 24, .iconst (-2), .ireturn, .aload 0, .getstatic 450, .iload 2, .invokevirtual 19, .aload 0, .getstatic 452, .getfield 259, .iconst (-1), .ixor, .iand, .istore 6, .iconst 0, .istore 7, .iconst 0, .istore 8, .iconst 0, .istore 9, .iload 9, .iconst 32, .if_icmp .ge 74, .iload 9, .iload 6, .iconst (-1), .ixor, .iand, .ifCond .ne 72, .iload 9, .iload 6, .iload 4, .invokestatic 100, .istore 10, .iload 8, .iload 10, .iadd, .istore 8, .iload 7, .aload 0, .iload 1, .iload 2, .iload 9, .invokevirtual 101, .iload 3, .if_icmp .gt 69, .iload 10, .goto 70, .iconst 0, .iadd, .istore 7, .iinc 9 1, .goto 41, .iload 7, .iload 8, .iload 5, .invokestatic 103, .ireturn]
def k_X7_seed : List Instr := [.aload 0, .dload 462, .lstore 3, .aload 0, .lload 1, .dstore 462, .lload 3, .lreturn]
def k_X7_winters : List Instr := [.iload 1, .iconst 1, .if_icmp .lt 6, .iload 1, .iconst 30, .if_icmp .le 8, .iconst (-2), .ireturn, .aload 0, .getstatic 453, .aload 0, .getstatic 452, .invokevirtual 37, .iconst 0, .istore 2, .iconst 0, .istore 3, .iload 3, .iload 1, .if_icmp .ge 44, .aload 0, .aload 0, .dload 462, .ldc2_w 6364136223846793005, .lmul, .ldc2_w 1442695040888963407, .ladd, .dstore 462, .iload 2, .aload 0, .aload 0, .getstatic 453, .aload 0, .dload 462, .iconst 33, .lushr, .ldc2_w 21, .lrem, .l2i, .invokevirtual 102, .iadd, .istore 2, .iinc 3 1, .goto 17, .iload 2, .ireturn]
def k_X7_keep : List Instr := [.iload 1, .invokestatic 90, .ifCond .ne 5, .iconst (-1), .ireturn, .aload 0, .getstatic 455, .iload 1, .aaload, .aload 0, .getstatic 452, .invokevirtual 37, .aload 0, .getstatic 456, .iload 1, .iconst 1, .bastore, .aload 0, .getstatic 452, .invokevirtual 43, .ireturn]
def k_X7_again : List Instr := [.iload 1, .invokestatic 90, .ifCond .ne 5, .iconst (-1), .ireturn, .aload 0, .getstatic 456, .iload 1, .baload, .ifCond .ne 12, .iconst (-3), .ireturn, .aload 0, .getstatic 452, .aload 0, .getstatic 455, .iload 1, .aaload, .invokevirtual 37, .aload 0, .getstatic 454, .invokevirtual 2, .aload 0, .getstatic 452, .invokevirtual 43, .ireturn]
def k_X7_count : List Instr := [.iload 1, .tableswitch 41 0 9 #[2, 5, 9, 13, 17, 21, 25, 29, 33, 37], .aload 0, .getfield 449, .ireturn, .aload 0, .getstatic 450, .getfield 64, .ireturn, .aload 0, .getstatic 450, .getfield 65, .ireturn, .aload 0, .getstatic 450, .getfield 66, .ireturn, .aload 0, .getstatic 450, .getfield 67, .ireturn, .aload 0, .getstatic 452, .getfield 261, .ireturn, .aload 0, .getstatic 452, .getfield 263, .ireturn, .aload 0, .getstatic 452, .getfield 260, .ireturn, .aload 0, .getstatic 454, .getfield 2, .ireturn, .aload 0, .getstatic 457, .getfield 131, .ireturn, .iconst (-2), .ireturn]
def k_X7_isSlot : List Instr := [.iload 0, .ifCond .lt 7, .iload 0, .iconst 2, .if_icmp .ge 7, .iconst 1, .goto 8, .iconst 0, .freturn]
def k_X7_isKind : List Instr := [.iload 0, .ifCond .lt 7, .iload 0, .iconst 4, .if_icmp .ge 7, .iconst 1, .goto 8, .iconst 0, .freturn]
def k_X7_fitIn : List Instr := [.aload 0, .getstatic 460, .iconst 0, .putfield 385, .aload 0, .getstatic 450, .aload 1, .aload 0, .getstatic 460, .iload 2, .invokevirtual 26, .ireturn]
def k_X7_sounds : List Instr := [.iconst 0, .istore 2, .iload 2, .aload 0, .getstatic 450, .getfield 66, .if_icmp .ge 29, .aload 0, .getstatic 450, .aload 0, .getstatic 452, .iload 1, .aload 0, .getstatic 450, .getstatic 72, .iload 2, .iaload, .aload 0, .getstatic 450, .getstatic 73, .iload 2, .iaload, .invokevirtual 22, .iconst 12, .if_icmp .eq 27, .iconst 1, .freturn, .iinc 2 1, .goto 2, .iconst 0, .freturn]
def k_X7_doesDoing : List Instr := [.iload 2, .tableswitch 32 5 8 #[2, 7, 12, 17], .aload 0, .aload 1, .iload 3, .invokevirtual 95, .freturn, .aload 0, .aload 1, .iload 3, .invokevirtual 96, .freturn, .aload 0, .aload 1, .iload 3, .invokevirtual 97, .freturn, .aload 0, .getstatic 450, .iload 3, .invokevirtual 18, .ifCond .eq 30, .aload 0, .aload 1, .iload 3, .invokevirtual 92, .iconst 3, .if_icmp .lt 30, .iconst 1, .goto 31, .iconst 0, .freturn, .aload 0, .aload 1, .iload 2, .iload 3, .invokevirtual 98, .freturn]
def k_X7_togglesOpen : List Instr := [.aload 0, .getstatic 450, .iload 2, .invokevirtual 15, .ifCond .ne 7, .iconst 0, .freturn, .aload 1, .dup, .getfield 258, .iconst 1, .iload 2, .ishl, .ixor, .putfield 258, .iconst 1, .freturn]
def k_X7_togglesOil : List Instr := [.aload 0, .getstatic 450, .iload 2, .invokevirtual 15, .ifCond .ne 7, .iconst 0, .freturn, .aload 1, .dup, .getfield 259, .iconst 1, .iload 2, .ishl, .ixor, .putfield 259, .iconst 1, .freturn]
def k_X7_turnsOut : List Instr := [.aload 0, .getstatic 450, .iload 2, .invokevirtual 17, .ifCond .eq 9, .aload 1, .iload 2, .invokevirtual 42, .ifCond .ne 11, .iconst 0, .freturn, .aload 1, .dup, .getfield 260, .iconst 1, .iload 2, .ishl, .ixor, .putfield 260, .iconst 1, .freturn]
def k_X7_goesHome : List Instr := [.aload 0, .getstatic 450, .aload 1, .iload 2, .iload 3, .invokevirtual 24, .ifCond .ne 9, .iconst 0, .freturn, .aload 0, .getstatic 450, .aload 1, .iload 2, .iload 3, .aload 0, .getstatic 460, .invokevirtual 25, .iconst 1, .freturn]
def k_X7_singersOf : List Instr := [.iconst 0, .istore 3, .iconst 0, .istore 4, .iload 4, .aload 0, .getstatic 450, .getfield 66, .if_icmp .ge 30, .aload 0, .getstatic 450, .aload 0, .getstatic 452, .iload 4, .iload 2, .aload 0, .getstatic 461, .invokevirtual 23, .iload 3, .aload 0, .getstatic 461, .invokevirtual 53, .iload 1, .ishr, .iconst 1, .iand, .iadd, .istore 3, .iinc 4 1, .goto 4, .iload 3, .ireturn]
def k_X7_chanceOf : List Instr := [.iconst 1, .istore 3, .iconst 0, .istore 4, .iload 4, .iconst 5, .if_icmp .ge 29, .iload 1, .iload 4, .ishr, .iconst 1, .iand, .ifCond .eq 27, .iload 3, .iload 0, .iload 4, .ishr, .iconst 1, .iand, .ifCond .eq 22, .iload 2, .goto 25, .iconst 10, .iload 2, .isub, .imul, .istore 3, .iinc 4 1, .goto 4, .iload 3, .ireturn]
def k_X7_tonesWhenOiled : List Instr := [.aload 0, .getstatic 453, .aload 0, .getstatic 452, .invokevirtual 37, .aload 0, .getstatic 453, .dup, .getfield 259, .iload 3, .ior, .putfield 259, .aload 0, .getstatic 450, .aload 0, .getstatic 453, .iload 1, .iload 2, .aload 0, .getstatic 460, .invokevirtual 23, .aload 0, .getstatic 460, .invokevirtual 52, .ireturn]
def k_X7_doChance : List Instr := [.iload 2, .iconst 20, .if_icmp .ne 10, .aload 1, .dup, .getfield 261, .iconst 1, .ixor, .putfield 261, .goto 35, .iload 2, .iconst 15, .if_icmp .lt 21, .aload 0, .aload 1, .iload 2, .iconst 15, .isub, .invokevirtual 97, .pop, .goto 35, .aload 0, .aload 1, .iload 2, .iconst 3, .idiv, .iload 2, .iconst 3, .irem, .invokevirtual 98, .ifCond .eq 35, .aload 0, .getstatic 460, .invokevirtual 52, .ireturn, .iconst 0, .ireturn]
def k_X7_fraction : List Instr := [.iload 0, .iload 1, .invokestatic 104, .istore 3, .iload 3, .ifCond .ne 12, .iload 2, .ifCond .eq 10, .iconst 0, .goto 11, .iconst 1, .ireturn, .iload 2, .ifCond .eq 18, .iload 0, .iload 3, .idiv, .goto 21, .iload 1, .iload 3, .idiv, .ireturn]
def k_X7_greatestCommon : List Instr := [.iload 0, .istore 2, .iload 1, .istore 3, .iconst 0, .istore 4, .iload 4, .iconst 64, .if_icmp .ge 21, .iload 3, .ifCond .eq 21, .iload 2, .iload 3, .irem, .istore 5, .iload 3, .istore 2, .iload 5, .istore 3, .iinc 4 1, .goto 6, .iload 2, .ireturn]
def k_X8_init : List Instr := [.aload 0, .monitorexit, .aload 0, .iconst 5, .newarray .int, .putstatic 516, .aload 0, .iconst 9, .newarray .int, .putstatic 517, .aload 0, .iconst 5, .newarray .int, .putstatic 518, .aload 0, .iconst 5, .newarray .int, .putstatic 519, .aload 0, .iconst 8, .newarray .int, .putstatic 520, .aload 0, .iconst 54, .newarray .int, .putstatic 521, .aload 0, .iconst 10, .newarray .int, .putstatic 522, .aload 0, .iconst 9, .newarray .int, .putstatic 523, .aload 0, .iconst 10, .newarray .int, .putstatic 524, .aload 0, .iconst 8, .newarray .int, .putstatic 525, .aload 0, .iconst 60, .newarray .int, .putstatic 531, .aload 0, .iconst 24, .newarray .int, .putstatic 535, .aload 0, .iconst 378, .newarray .int, .putstatic 539, .aload 0, .iconst 6, .newarray .int, .putstatic 542, .aload 0, .iconst 6, .newarray .int, .putstatic 543, .aload 0, .iconst 6, .newarray .int, .putstatic 544, .aload 0, .iconst 2, .newarray .boolean, .putstatic 546, .aload 0, .iconst 54, .newarray .int, .putstatic 547, .return_]
def k_X8_in : List Instr := [.lload 0, .lload 2, .lcmp, .ifCond .lt 10, .lload 0, .lload 4, .lcmp, .ifCond .gt 10, .iconst 1, .goto 11, .iconst 0, .freturn]
def k_X8_bit : List Instr := [.iload 0, .iload 1, .ishr, .iconst 1, .iand, .iconst 1, .if_icmp .ne 9, .iconst 1, .goto 10, .iconst 0, .freturn]
def k_X8_ones : List Instr := [.iconst 0, .istore 1, .iconst 0, .istore 2, .iload 2, .iconst 13, .if_icmp .ge 17, .iload 1, .iload 0, .iload 2, .ishr, .iconst 1, .iand, .iadd, .istore 1, .iinc 2 1, .goto 4, .iload 1, .ireturn]
def k_X8_write : List Instr := [.iload 1, .i2l, .ldc2_w 0, .ldc2_w 255, .invokestatic 106, .ifCond .ne 8, .iconst (-2), .ireturn, .aload 0, .getfield 532, .iconst 60, .if_icmp .ne 14, .iconst (-4), .ireturn, .aload 0, .getstatic 531, .aload 0, .getfield 532, .iload 1, .iastore, .aload 0, .dup, .getfield 532, .iconst 1, .iadd, .putfield 532, .aload 0, .getfield 532, .ireturn]
def k_X8_wipe : List Instr := [.aload 0, .getfield 532, .istore 1, .aload 0, .iconst 0, .putfield 532, .iload 1, .ireturn]
def k_X8_figure : List Instr := [.aload 0, .getfield 534, .iconst (-9), .if_icmp .ne 11, .aload 0, .getfield 533, .aload 0, .getfield 532, .if_icmp .ge 11, .iconst 1, .goto 12, .iconst 0, .istore 3, .iload 3, .ifCond .eq 23, .aload 0, .getstatic 531, .aload 0, .getfield 533, .iaload, .iconst 48, .isub, .goto 24, .iconst 0, .istore 4, .iload 3, .ifCond .eq 35, .iload 4, .i2l, .iload 1, .i2l, .iload 2, .i2l, .invokestatic 106, .ifCond .ne 48, .aload 0, .aload 0, .getfield 534, .iconst (-9), .if_icmp .ne 43, .aload 0, .getfield 533, .goto 45, .aload 0, .getfield 534, .putfield 534, .iload 1, .ireturn, .aload 0, .dup, .getfield 533, .iconst 1, .iadd, .putfield 533, .iload 4, .ireturn]
def k_X8_letterTone : List Instr := [.aload 0, .getfield 534, .iconst (-9), .if_icmp .ne 11, .aload 0, .getfield 533, .aload 0, .getfield 532, .if_icmp .ge 11, .iconst 1, .goto 12, .iconst 0, .istore 2, .iload 2, .ifCond .eq 32, .iload 1, .ifCond .eq 32, .aload 0, .getstatic 531, .aload 0, .getfield 533, .iaload, .iconst 45, .if_icmp .ne 32, .aload 0, .dup, .getfield 533, .iconst 1, .iadd, .putfield 533, .iconst 12, .ireturn, .iload 2, .ifCond .eq 44, .aload 0, .getstatic 531, .aload 0, .getfield 533, .iaload, .i2l, .ldc2_w 97, .ldc2_w 108, .invokestatic 106, .ifCond .ne 57, .aload 0, .aload 0, .getfield 534, .iconst (-9), .if_icmp .ne 52, .aload 0, .getfield 533, .goto 54, .aload 0, .getfield 534, .putfield 534, .iconst 0, .ireturn, .aload 0, .dup, .getfield 533, .iconst 1, .iadd, .putfield 533, .aload 0, .getstatic 531, .aload 0, .getfield 533, .iconst 1, .isub, .iaload, .iconst 97, .isub, .ireturn]
def k_X8_readText : List Instr := [.aload 0, .iconst 0, .putfield 533, .aload 0, .iconst (-9), .putfield 534, .aload 0, .iconst 0, .putfield 526, .aload 0, .iconst 0, .putfield 527, .aload 0, .iconst 0, .putfield 528, .aload 0, .iconst 0, .putfield 529, .aload 0, .getfield 532, .ifCond .eq 27, .aload 0, .getstatic 531, .iconst 0, .iaload, .iconst 67, .if_icmp .eq 29, .iconst 0, .ireturn, .aload 0, .iconst 1, .putfield 533, .aload 0, .aload 0, .iconst 0, .iconst 1, .invokevirtual 111, .putfield 530, .aload 0, .getfield 534, .iconst (-9), .if_icmp .ne 55, .aload 0, .getfield 533, .aload 0, .getfield 532, .if_icmp .ge 55, .aload 0, .aload 0, .getstatic 531, .aload 0, .getfield 533, .iaload, .invokevirtual 114, .goto 38, .aload 0, .getfield 534, .ireturn]
def k_X8_readPart : List Instr := [.iload 1, .iconst 71, .if_icmp .ne 43, .aload 0, .getfield 526, .iconst 5, .if_icmp .ge 43, .aload 0, .dup, .getfield 533, .iconst 1, .iadd, .putfield 533, .aload 0, .getstatic 522, .iconst 2, .aload 0, .getfield 526, .imul, .aload 0, .iconst 0, .invokevirtual 112, .iastore, .aload 0, .getstatic 522, .iconst 2, .aload 0, .getfield 526, .imul, .iconst 1, .iadd, .aload 0, .iconst 0, .iconst 3, .invokevirtual 111, .iastore, .aload 0, .dup, .getfield 526, .iconst 1, .iadd, .putfield 526, .goto 176, .iload 1, .iconst 76, .if_icmp .ne 89, .aload 0, .getfield 527, .iconst 3, .if_icmp .ge 89, .aload 0, .getfield 526, .ifCond .le 89, .aload 0, .dup, .getfield 533, .iconst 1, .iadd, .putfield 533, .iconst 0, .istore 2, .iload 2, .iconst 3, .if_icmp .ge 82, .aload 0, .getstatic 523, .iconst 3, .aload 0, .getfield 527, .imul, .iload 2, .iadd, .aload 0, .iconst 0, .aload 0, .getfield 526, .iconst 1, .isub, .invokevirtual 111, .iastore, .iinc 2 1, .goto 61, .aload 0, .dup, .getfield 527, .iconst 1, .iadd, .putfield 527, .goto 176, .iload 1, .iconst 66, .if_icmp .ne 133, .aload 0, .getfield 528, .iconst 5, .if_icmp .ge 133, .aload 0, .dup, .getfield 533, .iconst 1, .iadd, .putfield 533, .aload 0, .getstatic 524, .iconst 2, .aload 0, .getfield 528, .imul, .aload 0, .iconst 1, .iconst 9, .invokevirtual 111, .iastore, .aload 0, .getstatic 524, .iconst 2, .aload 0, .getfield 528, .imul, .iconst 1, .iadd, .aload 0, .iconst 0, .iconst 3, .invokevirtual 111, .iastore, .aload 0, .dup, .getfield 528, .iconst 1, .iadd, .putfield 528, .goto 176, .iload 1, .iconst 86, .if_icmp .ne 172, .aload 0, .getfield 529, .iconst 2, .if_icmp .ge 172, .aload 0, .dup, .getfield 533, .iconst 1, .iadd, .putfield 533, .iconst 0, .istore 2, .iload 2, .iconst 4, .if_icmp .ge 165, .aload 0, .getstatic 525, .iconst 4, .aload 0, .getfield 529, .imul, .iload 2, .iadd, .aload 0, .iconst 1, .invokevirtual 112, .iastore, .iinc 2 1, .goto 148, .aload 0, .dup, .getfield 529, .iconst 1, .iadd, .putfield 529, .goto 176, .aload 0, .aload 0, .getfield 533, .putfield 534, .return_]
def k_X8_fault : List Instr := [.aload 0, .invokevirtual 113, .ireturn]
def k_X8_fen : List Instr := [.aload 0, .invokevirtual 113, .iconst (-9), .if_icmp .eq 6, .iconst (-3), .ireturn, .aload 0, .aload 0, .getfield 526, .putfield 512, .aload 0, .aload 0, .getfield 527, .putfield 513, .aload 0, .aload 0, .getfield 528, .putfield 514, .aload 0, .aload 0, .getfield 529, .putfield 515, .iconst 0, .istore 1, .iload 1, .iconst 27, .if_icmp .ge 34, .aload 0, .getstatic 521, .iload 1, .iconst 0, .iastore, .iinc 1 1, .goto 24, .aload 0, .getstatic 521, .iconst 13, .aload 0, .getfield 530, .iastore, .iconst 0, .istore 1, .iload 1, .aload 0, .getfield 512, .if_icmp .ge 70, .aload 0, .getstatic 521, .iload 1, .aload 0, .getstatic 522, .iconst 2, .iload 1, .imul, .iaload, .iastore, .aload 0, .getstatic 516, .iload 1, .aload 0, .getstatic 522, .iconst 2, .iload 1, .imul, .iconst 1, .iadd, .iaload, .iastore, .iinc 1 1, .goto 42, .iconst 0, .istore 1, .iload 1, .iconst 9, .if_icmp .ge 85, .aload 0, .getstatic 517, .iload 1, .aload 0, .getstatic 523, .iload 1, .iaload, .iastore, .iinc 1 1, .goto 72, .iconst 0, .istore 1, .iload 1, .aload 0, .getfield 514, .if_icmp .ge 115, .aload 0, .getstatic 518, .iload 1, .aload 0, .getstatic 524, .iconst 2, .iload 1, .imul, .iaload, .iastore, .aload 0, .getstatic 519, .iload 1, .aload 0, .getstatic 524, .iconst 2, .iload 1, .imul, .iconst 1, .iadd, .iaload, .iastore, .iinc 1 1, .goto 87, .iconst 0, .istore 1, .iload 1, .iconst 8, .if_icmp .ge 130, .aload 0, .getstatic 520, .iload 1, .aload 0, .getstatic 525, .iload 1, .iaload, .iastore, .iinc 1 1, .goto 117, .aload 0, .iconst 0, .putfield 537, .aload 0, .getstatic 546, .iconst 0, .iconst 0, .bastore, .aload 0, .getstatic 546, .iconst 1, .iconst 0, .bastore, .iconst 1000, .aload 0, .getfield 512, .imul, .iconst 100, .aload 0, .getfield 513, .imul, .iadd, .iconst 10, .aload 0, .getfield 514, .imul, .iadd, .aload 0, .getfield 515, .iadd, .ireturn]
def k_X8_isGate : List Instr := [.iload 1, .i2l, .ldc2_w 0, .aload 0, .getfield 512, .iconst 1, .isub, .i2l, .invokestatic 106, .freturn]
def k_X8_isLane : List Instr := [.iload 1, .i2l, .ldc2_w 0, .aload 0, .getfield 513, .iconst 1, .isub, .i2l, .invokestatic 106, .freturn]
def k_X8_isBeast : List Instr := [.iload 1, .i2l, .ldc2_w 0, .aload 0, .getfield 514, .iconst 1, .isub, .i2l, .invokestatic 106, .freturn]
def k_X8_isVerse : List Instr := [.iload 1, .i2l, .ldc2_w 0, .aload 0, .getfield 515, .iconst 1, .isub, .i2l, .invokestatic 106, .freturn]
def k_X8_toneOf : List Instr := [.iconst 27, .iload 1, .imul, .istore 5, .aload 0, .getstatic 521, .iload 5, .iconst 10, .iadd, .iaload, .aload 0, .getstatic 521, .iload 5, .iconst 11, .iadd, .iaload, .ior, .iload 2, .invokestatic 107, .ifCond .ne 29, .aload 0, .getstatic 516, .iload 2, .iaload, .iconst 3, .if_icmp .ne 31, .iload 4, .iconst 5, .if_icmp .ge 31, .iconst 12, .ireturn, .aload 0, .getstatic 521, .iload 5, .iload 2, .iadd, .iaload, .iload 3, .iconst 3, .if_icmp .ne 44, .iload 4, .iconst 4, .idiv, .goto 47, .iload 4, .iconst 2, .idiv, .iadd, .istore 6, .iload 6, .aload 0, .getstatic 521, .iload 5, .iconst 13, .iadd, .iaload, .iconst 1, .if_icmp .ne 60, .iconst 4, .goto 61, .iconst 0, .iadd, .istore 6, .iload 6, .aload 0, .getstatic 516, .iload 2, .iaload, .iconst 2, .if_icmp .ne 79, .aload 0, .getstatic 521, .iload 5, .iconst 5, .iadd, .iload 2, .iadd, .iaload, .goto 80, .iconst 0, .isub, .istore 6, .iload 6, .iload 3, .iconst 2, .if_icmp .ne 88, .iconst 5, .goto 89, .iconst 0, .isub, .istore 6, .iload 6, .iconst 24, .iadd, .iconst 12, .irem, .ireturn]
def k_X8_sing : List Instr := [.aload 0, .getstatic 535, .iconst 12, .iload 1, .imul, .aload 0, .getfield 536, .iadd, .iload 2, .iastore, .aload 0, .dup, .getfield 536, .iconst 1, .iadd, .putfield 536, .iload 3, .ifCond .eq 41, .iload 2, .iconst 12, .if_icmp .eq 41, .aload 0, .getstatic 535, .iconst 12, .iload 1, .imul, .aload 0, .getfield 536, .iadd, .iload 2, .iconst 1, .iadd, .iconst 12, .irem, .iastore, .aload 0, .dup, .getfield 536, .iconst 1, .iadd, .putfield 536, .return_]
def k_X8_laySong : List Instr := [.aload 0, .iconst 0, .putfield 536, .iconst 0, .istore 5, .iload 5, .iconst 3, .if_icmp .ge 58, .aload 0, .getstatic 517, .iconst 3, .iload 4, .imul, .iload 5, .iadd, .iaload, .istore 6, .aload 0, .iload 1, .iload 6, .aload 0, .getstatic 519, .iload 3, .iaload, .aload 0, .getstatic 518, .iload 3, .iaload, .invokevirtual 121, .istore 7, .aload 0, .getstatic 519, .iload 3, .iaload, .iconst 1, .if_icmp .ne 38, .iconst 1, .goto 39, .iconst 0, .istore 8, .aload 0, .iload 2, .iload 7, .iload 8, .invokevirtual 122, .aload 0, .getstatic 516, .iload 6, .iaload, .iconst 1, .if_icmp .ne 56, .aload 0, .iload 2, .iload 7, .iload 8, .invokevirtual 122, .iinc 5 1, .goto 5, .aload 0, .getfield 536, .ireturn]
def k_X8_loud : List Instr := [.iconst 0, .istore 3, .iconst 0, .istore 4, .iload 4, .iload 2, .if_icmp .ge 25, .iload 3, .aload 0, .getstatic 535, .iconst 12, .iload 1, .imul, .iload 4, .iadd, .iaload, .iconst 12, .if_icmp .ne 20, .iconst 0, .goto 21, .iconst 1, .iadd, .istore 3, .iinc 4 1, .goto 4, .iload 3, .ireturn]
def k_X8_addSung : List Instr := [.iconst 27, .iload 1, .imul, .istore 3, .aload 0, .getstatic 521, .iload 3, .iconst 14, .iadd, .iaload, .iconst 12, .if_icmp .ne 44, .iconst 0, .istore 4, .iload 4, .iconst 11, .if_icmp .ge 37, .aload 0, .getstatic 521, .iload 3, .iconst 15, .iadd, .iload 4, .iadd, .aload 0, .getstatic 521, .iload 3, .iconst 15, .iadd, .iload 4, .iadd, .iconst 1, .iadd, .iaload, .iastore, .iinc 4 1, .goto 14, .aload 0, .getstatic 521, .iload 3, .iconst 14, .iadd, .iconst 11, .iastore, .aload 0, .getstatic 521, .iload 3, .iconst 15, .iadd, .aload 0, .getstatic 521, .iload 3, .iconst 14, .iadd, .iaload, .iadd, .iload 2, .iastore, .aload 0, .getstatic 521, .iload 3, .iconst 14, .iadd, .dup2, .iaload, .iconst 1, .iadd, .iastore, .return_]
def k_X8_driveOn : List Instr := [.iconst 27, .iload 1, .imul, .istore 4, .aload 0, .iload 1, .iconst 0, .iload 2, .iload 3, .invokevirtual 123, .istore 5, .iconst 0, .istore 6, .iload 6, .iload 5, .if_icmp .ge 25, .aload 0, .iload 1, .aload 0, .getstatic 535, .iload 6, .iaload, .invokevirtual 125, .iinc 6 1, .goto 13, .iconst 0, .istore 6, .iload 6, .iconst 3, .if_icmp .ge 61, .iload 4, .iconst 5, .iadd, .aload 0, .getstatic 517, .iconst 3, .iload 3, .imul, .iload 6, .iadd, .iaload, .iadd, .istore 7, .aload 0, .getstatic 521, .iload 7, .dup2, .iaload, .aload 0, .getstatic 521, .iload 7, .iaload, .iconst 3, .if_icmp .ge 56, .iconst 1, .goto 57, .iconst 0, .iadd, .iastore, .iinc 6 1, .goto 27, .aload 0, .getstatic 521, .iload 4, .iconst 12, .iadd, .dup2, .iaload, .iconst 1, .iload 2, .ishl, .ior, .iastore, .aload 0, .iconst 0, .iload 5, .invokevirtual 124, .ireturn]
def k_X8_lanesOf : List Instr := [.iconst 0, .istore 2, .iconst 0, .istore 3, .iload 3, .iconst 3, .aload 0, .getfield 513, .imul, .if_icmp .ge 28, .iload 2, .aload 0, .getstatic 517, .iload 3, .iaload, .iload 1, .if_icmp .ne 23, .iconst 1, .iload 3, .iconst 3, .idiv, .ishl, .goto 24, .iconst 0, .ior, .istore 2, .iinc 3 1, .goto 4, .iload 2, .ireturn]
def k_X8_gate : List Instr := [.aload 0, .iload 1, .invokevirtual 117, .ifCond .ne 6, .iconst (-1), .ireturn, .iload 2, .tableswitch 47 0 5 #[8, 13, 18, 25, 34, 43], .aload 0, .getstatic 521, .iload 1, .iaload, .ireturn, .aload 0, .getstatic 516, .iload 1, .iaload, .ireturn, .aload 0, .getstatic 521, .iconst 5, .iload 1, .iadd, .iaload, .ireturn, .aload 0, .getstatic 521, .iconst 10, .iaload, .iload 1, .ishr, .iconst 1, .iand, .ireturn, .aload 0, .getstatic 521, .iconst 11, .iaload, .iload 1, .ishr, .iconst 1, .iand, .ireturn, .aload 0, .iload 1, .invokevirtual 127, .ireturn, .iconst (-2), .ireturn]
def k_X8_beast : List Instr := [.aload 0, .iload 1, .invokevirtual 119, .ifCond .ne 6, .iconst (-1), .ireturn, .iload 2, .ifCond .ne 13, .aload 0, .getstatic 518, .iload 1, .iaload, .goto 34, .iload 2, .iconst 1, .if_icmp .ne 21, .aload 0, .getstatic 519, .iload 1, .iaload, .goto 34, .iload 2, .iconst 2, .if_icmp .ne 33, .aload 0, .getstatic 521, .iconst 12, .iaload, .iload 1, .ishr, .iconst 1, .iand, .goto 34, .iconst (-2), .ireturn]
def k_X8_tone : List Instr := [.aload 0, .iload 1, .invokevirtual 117, .ifCond .eq 21, .aload 0, .iload 2, .invokevirtual 119, .ifCond .eq 21, .aload 0, .iconst 0, .iload 1, .aload 0, .getstatic 519, .iload 2, .iaload, .aload 0, .getstatic 518, .iload 2, .iaload, .invokevirtual 121, .goto 22, .iconst (-1), .ireturn]
def k_X8_song : List Instr := [.aload 0, .iload 1, .invokevirtual 119, .ifCond .eq 8, .aload 0, .iload 2, .invokevirtual 118, .ifCond .ne 10, .iconst (-1), .ireturn, .iload 3, .i2l, .ldc2_w 0, .ldc2_w 12, .invokestatic 106, .ifCond .ne 18, .iconst (-2), .ireturn, .aload 0, .iconst 0, .iconst 0, .iload 1, .iload 2, .invokevirtual 123, .istore 4, .iload 3, .iconst 12, .if_icmp .ne 30, .iload 4, .goto 39, .iload 3, .iload 4, .if_icmp .ge 38, .aload 0, .getstatic 535, .iload 3, .iaload, .goto 39, .iconst (-9), .ireturn]
def k_X8_sungOn : List Instr := [.iconst 27, .iload 1, .imul, .istore 3, .iload 2, .aload 0, .getstatic 521, .iload 3, .iconst 14, .iadd, .iaload, .if_icmp .ge 30, .aload 0, .getstatic 521, .iload 3, .iconst 15, .iadd, .aload 0, .getstatic 521, .iload 3, .iconst 14, .iadd, .iaload, .iadd, .iconst 1, .isub, .iload 2, .isub, .iaload, .goto 31, .iconst (-9), .ireturn]
def k_X8_sung : List Instr := [.iload 1, .i2l, .ldc2_w 0, .ldc2_w 11, .invokestatic 106, .ifCond .eq 11, .aload 0, .iconst 0, .iload 1, .invokevirtual 132, .goto 12, .iconst (-2), .ireturn]
def k_X8_keepAct : List Instr := [.iconst 0, .istore 1, .iload 1, .iconst 27, .if_icmp .ge 20, .aload 0, .getstatic 539, .iconst 27, .aload 0, .getfield 538, .imul, .iload 1, .iadd, .aload 0, .getstatic 521, .iload 1, .iaload, .iastore, .iinc 1 1, .goto 2, .aload 0, .aload 0, .getfield 538, .iconst 1, .iadd, .iconst 14, .irem, .putfield 538, .aload 0, .aload 0, .getfield 537, .iconst 14, .if_icmp .ge 38, .aload 0, .getfield 537, .iconst 1, .iadd, .goto 39, .iconst 14, .putfield 537, .return_]
def k_X8_canDrive : List Instr := [.aload 0, .iload 2, .invokevirtual 119, .ifCond .eq 21, .aload 0, .iload 3, .invokevirtual 118, .ifCond .eq 21, .aload 0, .getstatic 521, .iconst 27, .iload 1, .imul, .iconst 12, .iadd, .iaload, .iload 2, .invokestatic 107, .ifCond .ne 21, .iconst 1, .goto 22, .iconst 0, .freturn]
def k_X8_drive : List Instr := [.aload 0, .iload 1, .invokevirtual 119, .ifCond .eq 8, .aload 0, .iload 2, .invokevirtual 118, .ifCond .ne 10, .iconst (-1), .ireturn, .aload 0, .iconst 0, .iload 1, .iload 2, .invokevirtual 135, .ifCond .ne 18, .iconst (-3), .ireturn, .aload 0, .invokevirtual 134, .aload 0, .iconst 0, .iload 1, .iload 2, .invokevirtual 126, .ireturn]
def k_X8_open : List Instr := [.aload 0, .iload 1, .invokevirtual 117, .ifCond .ne 6, .iconst (-1), .ireturn, .aload 0, .invokevirtual 134, .aload 0, .getstatic 521, .iconst 10, .dup2, .iaload, .iconst 1, .iload 1, .ishl, .ixor, .iastore, .aload 0, .getstatic 521, .iconst 10, .iaload, .iload 1, .ishr, .iconst 1, .iand, .ireturn]
def k_X8_oil : List Instr := [.aload 0, .iload 1, .invokevirtual 117, .ifCond .ne 6, .iconst (-1), .ireturn, .aload 0, .invokevirtual 134, .aload 0, .getstatic 521, .iconst 11, .dup2, .iaload, .iconst 1, .iload 1, .ishl, .ixor, .iastore, .aload 0, .getstatic 521, .iconst 11, .iaload, .iload 1, .ishr, .iconst 1, .iand, .ireturn]
def k_X8_hang : List Instr := [.aload 0, .iload 1, .invokevirtual 117, .ifCond .ne 6, .iconst (-1), .ireturn, .aload 0, .invokevirtual 134, .aload 0, .getstatic 521, .iload 1, .aload 0, .getstatic 521, .iload 1, .iaload, .iload 2, .ifCond .eq 19, .iconst 1, .goto 20, .iconst 11, .iadd, .iconst 12, .irem, .iastore, .aload 0, .getstatic 521, .iload 1, .iaload, .ireturn]
def k_X8_turnOut : List Instr := [.aload 0, .iload 1, .invokevirtual 119, .ifCond .ne 6, .iconst (-1), .ireturn, .aload 0, .getstatic 521, .iconst 12, .iaload, .iload 1, .invokestatic 107, .ifCond .ne 15, .iconst (-3), .ireturn, .aload 0, .invokevirtual 134, .aload 0, .getstatic 521, .iconst 12, .dup2, .iaload, .iconst 1, .iload 1, .ishl, .iconst (-1), .ixor, .iand, .iastore, .aload 0, .getstatic 521, .iconst 12, .iaload, .invokestatic 108, .ireturn]
def k_X8_frost : List Instr := [.aload 0, .invokevirtual 134, .aload 0, .getstatic 521, .iconst 13, .iconst 1, .aload 0, .getstatic 521, .iconst 13, .iaload, .isub, .iastore, .aload 0, .getstatic 521, .iconst 13, .iaload, .ireturn]
def k_X8_undo : List Instr := [.aload 0, .getfield 537, .ifCond .ne 5, .iconst (-3), .ireturn, .aload 0, .dup, .getfield 537, .iconst 1, .isub, .putfield 537, .aload 0, .aload 0, .getfield 538, .iconst 13, .iadd, .iconst 14, .irem, .putfield 538, .iconst 0, .istore 1, .iload 1, .iconst 27, .if_icmp .ge 39, .aload 0, .getstatic 521, .iload 1, .aload 0, .getstatic 539, .iconst 27, .aload 0, .getfield 538, .imul, .iload 1, .iadd, .iaload, .iastore, .iinc 1 1, .goto 21, .aload 0, .getfield 537, .ireturn]
def k_X8_fitOn : List Instr := [.iconst 0, .istore 3, .iconst 0, .istore 4, .iload 4, .iconst 4, .if_icmp .ge 30, .iload 3, .aload 0, .iload 1, .iconst 3, .iload 4, .isub, .invokevirtual 132, .aload 0, .getstatic 520, .iconst 4, .iload 2, .imul, .iload 4, .iadd, .iaload, .if_icmp .ne 25, .iconst 1, .goto 26, .iconst 0, .iadd, .istore 3, .iinc 4 1, .goto 4, .iload 3, .ireturn]
def k_X8_fit : List Instr := [.aload 0, .iload 1, .invokevirtual 120, .ifCond .eq 9, .aload 0, .iconst 0, .iload 1, .invokevirtual 143, .goto 10, .iconst (-1), .ireturn]
def k_X8_isSweet : List Instr := [.iload 0, .ifCond .eq 14, .iload 0, .i2l, .ldc2_w 3, .ldc2_w 5, .invokestatic 106, .ifCond .ne 14, .iload 0, .i2l, .ldc2_w 7, .ldc2_w 9, .invokestatic 106, .ifCond .eq 16, .iconst 1, .goto 17, .iconst 0, .freturn]
def k_X8_harmonyOf : List Instr := [.iconst 0, .istore 3, .iconst 0, .istore 4, .iload 4, .iload 1, .if_icmp .ge 48, .iload 4, .iload 2, .if_icmp .ge 48, .aload 0, .getstatic 535, .iload 4, .iaload, .istore 5, .aload 0, .getstatic 535, .iconst 12, .iload 4, .iadd, .iaload, .istore 6, .iload 3, .iload 5, .iconst 12, .if_icmp .eq 43, .iload 6, .iconst 12, .if_icmp .eq 43, .iload 5, .iload 6, .if_icmp .le 36, .iload 5, .iload 6, .isub, .goto 39, .iload 6, .iload 5, .isub, .invokestatic 145, .ifCond .eq 43, .iconst 1, .goto 44, .iconst 0, .iadd, .istore 3, .iinc 4 1, .goto 4, .iload 3, .ireturn]
def k_X8_harmony : List Instr := [.aload 0, .iload 1, .invokevirtual 119, .ifCond .eq 16, .aload 0, .iload 2, .invokevirtual 118, .ifCond .eq 16, .aload 0, .iload 3, .invokevirtual 119, .ifCond .eq 16, .aload 0, .iload 4, .invokevirtual 118, .ifCond .ne 18, .iconst (-1), .ireturn, .aload 0, .iconst 0, .iconst 0, .iload 1, .iload 2, .invokevirtual 123, .istore 5, .aload 0, .iload 5, .aload 0, .iconst 0, .iconst 1, .iload 3, .iload 4, .invokevirtual 123, .invokevirtual 146, .ireturn]
def k_X8_layTrial : List Instr := [.iconst 0, .istore 1, .iload 1, .iconst 27, .if_icmp .ge 17, .aload 0, .getstatic 521, .iconst 27, .iload 1, .iadd, .aload 0, .getstatic 521, .iload 1, .iaload, .iastore, .iinc 1 1, .goto 2, .return_]
def k_X8_power : List Instr := [.iconst 1, .istore 2, .iconst 0, .istore 3, .iload 3, .iload 1, .if_icmp .ge 13, .iload 2, .iload 0, .imul, .istore 2, .iinc 3 1, .goto 4, .iload 2, .ireturn]
def k_X8_driveRow : List Instr := [.aload 0, .getfield 514, .aload 0, .getfield 513, .imul, .istore 3, .aload 0, .invokevirtual 148, .iconst 0, .istore 4, .iload 4, .iload 1, .if_icmp .ge 53, .iload 2, .iload 3, .iload 1, .iconst 1, .isub, .iload 4, .isub, .invokestatic 149, .idiv, .iload 3, .irem, .istore 5, .aload 0, .iconst 1, .iload 5, .aload 0, .getfield 513, .idiv, .iload 5, .aload 0, .getfield 513, .irem, .invokevirtual 135, .ifCond .ne 39, .iconst 0, .freturn, .aload 0, .iconst 1, .iload 5, .aload 0, .getfield 513, .idiv, .iload 5, .aload 0, .getfield 513, .irem, .invokevirtual 126, .pop, .iinc 4 1, .goto 10, .iconst 1, .freturn]
def k_X8_told : List Instr := [.aload 0, .getfield 514, .aload 0, .getfield 513, .imul, .istore 3, .iconst 0, .istore 4, .iconst 0, .istore 5, .iload 5, .iload 1, .if_icmp .ge 47, .iload 2, .iload 3, .iload 1, .iconst 1, .isub, .iload 5, .isub, .invokestatic 149, .idiv, .iload 3, .irem, .istore 6, .iconst 100, .iload 4, .imul, .iconst 10, .iload 6, .aload 0, .getfield 513, .idiv, .iconst 1, .iadd, .imul, .iadd, .iload 6, .aload 0, .getfield 513, .irem, .iadd, .iconst 1, .iadd, .istore 4, .iinc 5 1, .goto 10, .iload 4, .ireturn]
def k_X8_bestFit : List Instr := [.iconst (-9), .istore 3, .aload 0, .iconst 0, .putfield 540, .iconst 0, .istore 4, .iload 4, .aload 0, .getfield 514, .aload 0, .getfield 513, .imul, .iload 2, .invokestatic 149, .if_icmp .ge 46, .aload 0, .iload 2, .iload 4, .invokevirtual 150, .ifCond .eq 26, .aload 0, .iconst 1, .iload 1, .invokevirtual 143, .goto 27, .iconst (-9), .istore 5, .aload 0, .iload 5, .iload 3, .if_icmp .le 34, .iload 4, .goto 36, .aload 0, .getfield 540, .putfield 540, .iload 5, .iload 3, .if_icmp .le 42, .iload 5, .goto 43, .iload 3, .istore 3, .iinc 4 1, .goto 7, .iload 3, .ireturn]
def k_X8_best : List Instr := [.aload 0, .iload 1, .invokevirtual 120, .ifCond .ne 6, .iconst (-1), .ireturn, .iload 2, .i2l, .ldc2_w 1, .ldc2_w 3, .invokestatic 106, .ifCond .ne 14, .iconst (-2), .ireturn, .aload 0, .iload 1, .iload 2, .invokevirtual 152, .istore 4, .iload 3, .ifCond .eq 30, .iload 4, .iconst (-9), .if_icmp .eq 30, .aload 0, .iload 2, .aload 0, .getfield 540, .invokevirtual 151, .goto 31, .iload 4, .ireturn]
def k_X8_fewest : List Instr := [.aload 0, .iload 1, .invokevirtual 120, .ifCond .ne 6, .iconst (-1), .ireturn, .iconst 0, .istore 2, .iload 2, .iconst 4, .if_icmp .ge 21, .aload 0, .iload 1, .iload 2, .invokevirtual 152, .iconst 4, .if_icmp .ne 19, .iload 2, .ireturn, .iinc 2 1, .goto 8, .iconst (-9), .ireturn]
def k_X8_tonesIn : List Instr := [.iconst 0, .istore 3, .iconst 0, .istore 4, .iload 4, .iload 2, .if_icmp .ge 22, .iload 3, .iconst 1, .aload 0, .getstatic 535, .iconst 12, .iload 1, .imul, .iload 4, .iadd, .iaload, .ishl, .ior, .istore 3, .iinc 4 1, .goto 4, .iload 3, .iconst (-4097), .iand, .ireturn]
def k_X8_has : List Instr := [.aload 0, .iload 1, .invokevirtual 120, .ifCond .eq 8, .aload 0, .iload 2, .invokevirtual 118, .ifCond .ne 10, .iconst (-1), .ireturn, .iconst 0, .istore 3, .iconst 0, .istore 4, .iload 4, .iconst 4, .if_icmp .ge 32, .iload 3, .iconst 1, .aload 0, .getstatic 520, .iconst 4, .iload 1, .imul, .iload 4, .iadd, .iaload, .ishl, .ior, .istore 3, .iinc 4 1, .goto 14, .iload 3, .iconst (-4097), .iand, .istore 3, .iconst 0, .istore 4, .iconst 0, .istore 5, .iload 5, .aload 0, .getfield 514, .if_icmp .ge 68, .iload 4, .iload 3, .aload 0, .iconst 0, .aload 0, .iconst 0, .iconst 0, .iload 5, .iload 2, .invokevirtual 123, .invokevirtual 155, .iconst (-1), .ixor, .iand, .ifCond .ne 63, .iconst 1, .iload 5, .ishl, .goto 64, .iconst 0, .ior, .istore 4, .iinc 5 1, .goto 40, .iload 4, .ireturn]
def k_X8_isSilent : List Instr := [.aload 0, .invokevirtual 148, .aload 0, .getstatic 521, .iconst 38, .dup2, .iaload, .iload 2, .ior, .iastore, .iconst 0, .istore 3, .iconst 0, .istore 4, .iload 4, .aload 0, .getfield 514, .if_icmp .ge 32, .iload 3, .aload 0, .iconst 0, .aload 0, .iconst 1, .iconst 0, .iload 4, .iload 1, .invokevirtual 123, .invokevirtual 124, .iadd, .istore 3, .iinc 4 1, .goto 14, .iload 3, .ifCond .ne 36, .iconst 1, .goto 37, .iconst 0, .freturn]
def k_X8_silence : List Instr := [.aload 0, .iload 1, .invokevirtual 118, .ifCond .ne 6, .iconst (-1), .ireturn, .iconst (-9), .istore 2, .iconst 0, .istore 3, .iload 3, .iconst 1, .aload 0, .getfield 512, .ishl, .if_icmp .ge 41, .iload 2, .iconst (-9), .if_icmp .eq 24, .iload 3, .invokestatic 108, .iload 2, .invokestatic 108, .if_icmp .ge 26, .iconst 1, .goto 27, .iconst 0, .istore 4, .iload 4, .ifCond .eq 37, .aload 0, .iload 1, .iload 3, .invokevirtual 157, .ifCond .eq 37, .iload 3, .goto 38, .iload 2, .istore 2, .iinc 3 1, .goto 10, .iload 2, .ireturn]
def k_X8_tryThing : List Instr := [.iload 1, .iconst 5, .if_icmp .ge 19, .aload 0, .iconst 1, .iload 1, .iload 2, .invokevirtual 135, .istore 3, .iload 3, .ifCond .eq 17, .aload 0, .iconst 1, .iload 1, .iload 2, .invokevirtual 126, .pop, .iload 3, .freturn, .iload 1, .iconst 7, .if_icmp .ge 26, .aload 0, .iload 2, .invokevirtual 117, .goto 60, .iload 1, .iconst 7, .if_icmp .ne 44, .aload 0, .iload 2, .invokevirtual 119, .ifCond .eq 42, .aload 0, .getstatic 521, .iconst 39, .iaload, .iload 2, .invokestatic 107, .ifCond .eq 42, .iconst 1, .goto 60, .iconst 0, .goto 60, .iload 1, .iconst 8, .if_icmp .ne 59, .aload 0, .iload 2, .invokevirtual 120, .ifCond .eq 59, .aload 0, .iconst 1, .iload 2, .invokevirtual 143, .iconst 2, .if_icmp .le 59, .iconst 1, .goto 60, .iconst 0, .istore 3, .iload 3, .ifCond .eq 77, .iload 1, .iconst 5, .if_icmp .ne 77, .aload 0, .getstatic 521, .iconst 37, .dup2, .iaload, .iconst 1, .iload 2, .ishl, .ixor, .iastore, .goto 110, .iload 3, .ifCond .eq 93, .iload 1, .iconst 6, .if_icmp .ne 93, .aload 0, .getstatic 521, .iconst 38, .dup2, .iaload, .iconst 1, .iload 2, .ishl, .ixor, .iastore, .goto 110, .iload 3, .ifCond .eq 110, .iload 1, .iconst 7, .if_icmp .ne 110, .aload 0, .getstatic 521, .iconst 39, .dup2, .iaload, .iconst 1, .iload 2, .ishl, .iconst (-1), .ixor, .iand, .iastore, .iload 3, .freturn]
def k_X8_judge : List Instr := [.iload 1, .i2l, .ldc2_w 1, .ldc2_w 4, .invokestatic 106, .ifCond .eq 17, .iload 2, .i2l, .ldc2_w 0, .iconst 100, .iload 1, .invokestatic 149, .iconst 1, .isub, .i2l, .invokestatic 106, .ifCond .ne 19, .iconst (-2), .ireturn, .aload 0, .invokevirtual 148, .iconst 0, .istore 3, .iload 3, .iload 1, .if_icmp .ge 51, .iload 2, .iconst 100, .iload 1, .iconst 1, .isub, .iload 3, .isub, .invokestatic 149, .idiv, .iconst 100, .irem, .istore 4, .aload 0, .iload 4, .iconst 10, .idiv, .iload 4, .iconst 10, .irem, .invokevirtual 159, .ifCond .ne 49, .iload 3, .ireturn, .iinc 3 1, .goto 23, .iconst (-9), .ireturn]
def k_X8_hear : List Instr := [.aload 0, .iload 2, .invokevirtual 117, .ifCond .ne 6, .iconst (-1), .ireturn, .iload 1, .i2l, .ldc2_w 0, .ldc2_w 3, .invokestatic 106, .ifCond .eq 18, .iload 3, .i2l, .ldc2_w 0, .ldc2_w 12, .invokestatic 106, .ifCond .ne 20, .iconst (-2), .ireturn, .aload 0, .getfield 541, .iconst 6, .if_icmp .ne 26, .iconst (-4), .ireturn, .aload 0, .getstatic 542, .aload 0, .getfield 541, .iload 1, .iastore, .aload 0, .getstatic 543, .aload 0, .getfield 541, .iload 2, .iastore, .aload 0, .getstatic 544, .aload 0, .getfield 541, .iload 3, .iastore, .aload 0, .dup, .getfield 541, .iconst 1, .iadd, .putfield 541, .aload 0, .getfield 541, .ireturn]
def k_X8_unhear : List Instr := [.aload 0, .getfield 541, .istore 1, .aload 0, .iconst 0, .putfield 541, .iload 1, .ireturn]
def k_X8_weights : List Instr := [.iload 1, .i2l, .ldc2_w 0, .ldc2_w 3, .invokestatic 106, .ifCond .ne 8, .iconst (-2), .ireturn, .iconst 0, .istore 2, .iconst 1, .istore 3, .iload 3, .iconst 10, .if_icmp .ge 76, .iconst 1, .istore 4, .iconst 0, .istore 5, .iload 5, .aload 0, .getfield 541, .if_icmp .ge 64, .aload 0, .getstatic 542, .iload 5, .iaload, .iload 1, .if_icmp .ne 38, .aload 0, .aload 0, .getstatic 543, .iload 5, .iaload, .invokevirtual 117, .ifCond .eq 38, .iconst 1, .goto 39, .iconst 0, .istore 6, .iload 4, .ifCond .eq 60, .iload 6, .ifCond .eq 58, .aload 0, .iconst 0, .aload 0, .getstatic 543, .iload 5, .iaload, .iload 1, .iload 3, .invokevirtual 121, .aload 0, .getstatic 544, .iload 5, .iaload, .if_icmp .ne 60, .iconst 1, .goto 61, .iconst 0, .istore 4, .iinc 5 1, .goto 19, .iload 2, .iload 4, .ifCond .eq 71, .iconst 1, .iload 3, .ishl, .goto 72, .iconst 0, .ior, .istore 2, .iinc 3 1, .goto 12, .iload 2, .ireturn]
def k_X8_factorial : List Instr := [.iconst 1, .istore 1, .iconst 2, .istore 2, .iload 2, .iload 0, .if_icmp .gt 13, .iload 1, .iload 2, .imul, .istore 1, .iinc 2 1, .goto 4, .iload 1, .ireturn]
def k_X8_common : List Instr := [.iload 0, .ifCond .ge 5, .iload 0, .ineg, .goto 6, .iload 0, .istore 2, .iload 1, .istore 3, .iload 3, .ifCond .eq 20, .iload 2, .iload 3, .irem, .istore 4, .iload 3, .istore 2, .iload 4, .istore 3, .goto 9, .iload 2, .ireturn]
def k_X8_tonesBy : List Instr := [.iconst 0, .istore 3, .iconst 0, .istore 4, .iload 4, .aload 0, .getfield 514, .if_icmp .ge 28, .iload 3, .iload 1, .iload 4, .invokestatic 107, .ifCond .eq 23, .aload 0, .iconst 0, .aload 0, .iconst 0, .iconst 0, .iload 4, .iload 2, .invokevirtual 123, .invokevirtual 155, .goto 24, .iconst 0, .ior, .istore 3, .iinc 4 1, .goto 4, .iload 3, .invokestatic 108, .ireturn]
def k_X8_share : List Instr := [.aload 0, .iload 1, .invokevirtual 119, .ifCond .eq 8, .aload 0, .iload 2, .invokevirtual 118, .ifCond .ne 10, .iconst (-1), .ireturn, .iconst 0, .istore 4, .iconst 0, .istore 5, .iload 5, .iconst 1, .aload 0, .getfield 514, .ishl, .if_icmp .ge 57, .iload 5, .iload 1, .invokestatic 107, .ifCond .ne 55, .iload 5, .invokestatic 108, .invokestatic 164, .aload 0, .getfield 514, .iconst 1, .isub, .iload 5, .invokestatic 108, .isub, .invokestatic 164, .imul, .istore 6, .iload 4, .iload 6, .aload 0, .iload 5, .iconst 1, .iload 1, .ishl, .ior, .iload 2, .invokevirtual 166, .aload 0, .iload 5, .iload 2, .invokevirtual 166, .isub, .imul, .iadd, .istore 4, .iinc 5 1, .goto 14, .iload 4, .aload 0, .getfield 514, .invokestatic 164, .invokestatic 165, .istore 5, .iload 3, .ifCond .eq 69, .iload 4, .iload 5, .idiv, .goto 74, .aload 0, .getfield 514, .invokestatic 164, .iload 5, .idiv, .ireturn]
def k_X8_gain : List Instr := [.iload 3, .iload 4, .if_icmp .ne 5, .iconst 0, .ireturn, .aload 0, .iconst 0, .iconst 0, .iload 1, .iload 3, .invokevirtual 123, .istore 5, .aload 0, .iconst 0, .iload 5, .invokevirtual 124, .iload 5, .if_icmp .ne 20, .iconst 1, .goto 21, .iconst 0, .istore 6, .aload 0, .iload 5, .aload 0, .iconst 0, .iconst 1, .iload 2, .iload 4, .invokevirtual 123, .invokevirtual 146, .iload 6, .iadd, .ireturn]
def k_X8_isRest : List Instr := [.iconst 1, .istore 5, .iconst 0, .istore 6, .iload 6, .aload 0, .getfield 513, .if_icmp .ge 42, .iload 5, .ifCond .eq 38, .aload 0, .iload 1, .iload 2, .iload 6, .iload 4, .invokevirtual 168, .aload 0, .iload 1, .iload 2, .iload 3, .iload 4, .invokevirtual 168, .if_icmp .gt 38, .aload 0, .iload 2, .iload 1, .iload 6, .iload 3, .invokevirtual 168, .aload 0, .iload 2, .iload 1, .iload 4, .iload 3, .invokevirtual 168, .if_icmp .gt 38, .iconst 1, .goto 39, .iconst 0, .istore 5, .iinc 6 1, .goto 4, .iload 5, .freturn]
def k_X8_rests : List Instr := [.aload 0, .iload 1, .invokevirtual 119, .ifCond .eq 8, .aload 0, .iload 2, .invokevirtual 119, .ifCond .ne 10, .iconst (-1), .ireturn, .iload 1, .iload 2, .if_icmp .eq 19, .iload 3, .i2l, .ldc2_w 0, .ldc2_w 1, .invokestatic 106, .ifCond .ne 21, .iconst (-2), .ireturn, .iconst 0, .istore 4, .iconst (-9), .istore 5, .iconst 0, .istore 6, .iload 6, .aload 0, .getfield 513, .aload 0, .getfield 513, .imul, .if_icmp .ge 66, .aload 0, .iload 1, .iload 2, .iload 6, .aload 0, .getfield 513, .idiv, .iload 6, .aload 0, .getfield 513, .irem, .invokevirtual 169, .ifCond .eq 64, .iload 4, .ifCond .ne 61, .iconst 10, .iload 6, .aload 0, .getfield 513, .idiv, .imul, .iload 6, .aload 0, .getfield 513, .irem, .iadd, .goto 62, .iload 5, .istore 5, .iinc 4 1, .iinc 6 1, .goto 27, .iload 3, .ifCond .ne 70, .iload 4, .goto 71, .iload 5, .ireturn]
def k_X8_drips : List Instr := [.aload 0, .iload 1, .invokevirtual 119, .ifCond .eq 8, .aload 0, .iload 2, .invokevirtual 118, .ifCond .ne 10, .iconst (-1), .ireturn, .iload 3, .i2l, .ldc2_w 0, .ldc2_w 12, .invokestatic 106, .ifCond .eq 22, .iload 4, .i2l, .ldc2_w 0, .ldc2_w 10, .invokestatic 106, .ifCond .ne 24, .iconst (-2), .ireturn, .iconst 0, .istore 6, .iconst 0, .istore 7, .iconst 0, .istore 8, .iload 8, .iconst 1, .aload 0, .getfield 512, .ishl, .if_icmp .ge 84, .aload 0, .invokevirtual 148, .aload 0, .getstatic 521, .iconst 38, .dup2, .iaload, .iload 8, .ior, .iastore, .iload 4, .iload 8, .invokestatic 108, .invokestatic 149, .iconst 10, .iload 4, .isub, .aload 0, .getfield 512, .iload 8, .invokestatic 108, .isub, .invokestatic 149, .imul, .istore 9, .iload 7, .iload 9, .iadd, .istore 7, .iload 6, .aload 0, .iconst 0, .aload 0, .iconst 1, .iconst 0, .iload 1, .iload 2, .invokevirtual 123, .invokevirtual 124, .iload 3, .if_icmp .gt 79, .iload 9, .goto 80, .iconst 0, .iadd, .istore 6, .iinc 8 1, .goto 30, .iload 6, .iload 7, .invokestatic 165, .istore 8, .iload 5, .ifCond .eq 94, .iload 6, .iload 8, .idiv, .goto 97, .iload 7, .iload 8, .idiv, .ireturn]
def k_X8_seed : List Instr := [.aload 0, .dload 545, .lstore 3, .aload 0, .lload 1, .dstore 545, .lload 3, .lreturn]
def k_X8_winters : List Instr := [.iload 1, .i2l, .ldc2_w 1, .ldc2_w 30, .invokestatic 106, .ifCond .ne 8, .iconst (-2), .ireturn, .aload 0, .invokevirtual 148, .iconst 0, .istore 2, .iconst 0, .istore 3, .iload 3, .iload 1, .if_icmp .ge 89, .aload 0, .aload 0, .dload 545, .ldc2_w 6364136223846793005, .lmul, .ldc2_w 1442695040888963407, .ladd, .dstore 545, .aload 0, .dload 545, .iconst 33, .lushr, .ldc2_w 21, .lrem, .l2i, .istore 4, .iload 4, .iconst 20, .if_icmp .ne 47, .aload 0, .getstatic 521, .iconst 40, .iconst 1, .aload 0, .getstatic 521, .iconst 40, .iaload, .isub, .iastore, .goto 87, .iload 4, .iconst 14, .if_icmp .le 65, .aload 0, .getstatic 521, .iconst 39, .dup2, .iaload, .iconst 1, .iload 4, .iconst 15, .isub, .ishl, .iconst (-1), .ixor, .iand, .iastore, .goto 87, .aload 0, .iconst 1, .iload 4, .iconst 3, .idiv, .iload 4, .iconst 3, .irem, .invokevirtual 135, .ifCond .eq 87, .iload 2, .aload 0, .iconst 1, .iload 4, .iconst 3, .idiv, .iload 4, .iconst 3, .irem, .invokevirtual 126, .iadd, .istore 2, .iinc 3 1, .goto 14, .iload 2, .ireturn]
def k_X8_keep : List Instr := [.iload 1, .i2l, .ldc2_w 0, .ldc2_w 1, .invokestatic 106, .ifCond .ne 8, .iconst (-1), .ireturn, .aload 0, .getstatic 546, .iload 1, .iconst 1, .bastore, .iconst 0, .istore 2, .iload 2, .iconst 27, .if_icmp .ge 32, .aload 0, .getstatic 547, .iconst 27, .iload 1, .imul, .iload 2, .iadd, .aload 0, .getstatic 521, .iload 2, .iaload, .iastore, .iinc 2 1, .goto 15, .aload 0, .getstatic 521, .iconst 12, .iaload, .invokestatic 108, .ireturn]
def k_X8_again : List Instr := [.iload 1, .i2l, .ldc2_w 0, .ldc2_w 1, .invokestatic 106, .ifCond .ne 8, .iconst (-1), .ireturn, .aload 0, .getstatic 546, .iload 1, .baload, .ifCond .ne 15, .iconst (-3), .ireturn, .iconst 0, .istore 2, .iload 2, .iconst 27, .if_icmp .ge 34, .aload 0, .getstatic 521, .iload 2, .aload 0, .getstatic 547, .iconst 27, .iload 1, .imul, .iload 2, .iadd, .iaload, .iastore, .iinc 2 1, .goto 17, .aload 0, .iconst 0, .putfield 537, .aload 0, .getstatic 521, .iconst 12, .iaload, .invokestatic 108, .ireturn]
def k_X8_count : List Instr := [.iload 1, .tableswitch 38 0 9 #[2, 5, 8, 11, 14, 17, 22, 27, 32, 35], .aload 0, .getfield 532, .ireturn, .aload 0, .getfield 512, .ireturn, .aload 0, .getfield 513, .ireturn, .aload 0, .getfield 514, .ireturn, .aload 0, .getfield 515, .ireturn, .aload 0, .getstatic 521, .iconst 13, .iaload, .ireturn, .aload 0, .getstatic 521, .iconst 14, .iaload, .ireturn, .aload 0, .getstatic 521, .iconst 12, .iaload, .ireturn, .aload 0, .getfield 537, .ireturn, .aload 0, .getfield 541, .ireturn, .iconst (-2), .ireturn]
def k_J6_bitCount_0f7a4 : List Instr := [.iload 0, .iload 0, .iconst 1, .iushr, .iconst 1431655765, .iand, .isub, .istore 0, .iload 0, .iconst 858993459, .iand, .iload 0, .iconst 2, .iushr, .iconst 858993459, .iand, .iadd, .istore 0, .iload 0, .iload 0, .iconst 4, .iushr, .iadd, .iconst 252645135, .iand, .istore 0, .iload 0, .iload 0, .iconst 8, .iushr, .iadd, .istore 0, .iload 0, .iload 0, .iconst 16, .iushr, .iadd, .istore 0, .iload 0, .iconst 63, .iand, .ireturn]
def k_J9_floorMod_7cf53 : List Instr := [.iload 0, .iload 1, .irem, .istore 2, .iload 0, .iload 1, .ixor, .ifCond .ge 14, .iload 2, .ifCond .eq 14, .iload 2, .iload 1, .iadd, .ireturn, .iload 2, .ireturn]
def k_J9_abs_0f7a4 : List Instr := [.iload 0, .ifCond .ge 5, .iload 0, .ineg, .goto 6, .iload 0, .ireturn]
def k_J9_min_7cf53 : List Instr := [.iload 0, .iload 1, .if_icmp .gt 5, .iload 0, .goto 6, .iload 1, .ireturn]
def gMl : List gI := [(k_L_law, 4, 1, 0, 600000, 7302250), (k_X0_init, 2, 1, 0, 15, 126), (k_X0_forgetAll, 1, 1, 0, 0, 0), (k_X0_add, 2, 2, 0, 0, 0), (k_X0_takeLast, 2, 2, 0, 0, 0), (k_X1_init, 1, 1, 1, 6, 37), (k_X1_read, 4, 3, 1, 0, 0), (k_X1_takes, 3, 3, 1, 0, 0), (k_X1_mayStart, 2, 2, 1, 0, 0), (k_X1_goesOn, 2, 2, 1, 0, 0), (k_X1_takesGate, 2, 2, 1, 0, 0), (k_X1_takesLane, 3, 2, 1, 0, 0), (k_X1_takesBeast, 2, 2, 1, 0, 0), (k_X1_takesVerse, 3, 2, 1, 0, 0), (k_X1_isNote, 1, 1, 1, 0, 0), (k_X1_isGate, 2, 2, 1, 0, 0), (k_X1_isLane, 2, 2, 1, 0, 0), (k_X1_isBeast, 2, 2, 1, 0, 0), (k_X1_isVerse, 2, 2, 1, 0, 0), (k_X1_gatesOf, 4, 2, 1, 0, 0), (k_X1_lanesWith, 4, 2, 1, 0, 0), (k_X1_verseBits, 4, 2, 1, 0, 0), (k_X1_toneBy, 7, 5, 1, 0, 0), (k_X1_sing, 10, 5, 1, 0, 0), (k_X1_canGoHome, 4, 4, 1, 0, 0), (k_X1_sendHome, 6, 5, 1, 0, 0), (k_X1_fitBehind, 7, 4, 1, 0, 0), (k_X2_init, 1, 1, 2, 3, 18), (k_X2_add, 4, 4, 2, 0, 0), (k_X2_agrees, 7, 5, 2, 0, 0), (k_X3_init, 1, 1, 3, 2, 18), (k_X3_meet, 7, 5, 3, 0, 0), (k_X3_settle, 4, 2, 3, 0, 0), (k_X3_isAtRest, 6, 4, 3, 0, 0), (k_X3_isUnbroken, 1, 1, 3, 0, 0), (k_X4_init, 1, 1, 4, 0, 0), (k_X4_begin, 3, 2, 4, 0, 0), (k_X4_become, 2, 2, 4, 0, 0), (k_X4_noteOf, 2, 2, 4, 0, 0), (k_X4_setNote, 3, 3, 4, 0, 0), (k_X4_passedOf, 2, 2, 4, 0, 0), (k_X4_pass, 2, 2, 4, 0, 0), (k_X4_isHome, 2, 2, 4, 0, 0), (k_X4_homeCount, 1, 1, 4, 0, 0), (k_X4_addSung, 2, 2, 4, 0, 0), (k_X4_fromLast, 2, 2, 4, 0, 0), (k_X5_init, 2, 1, 5, 5, 32), (k_X5_look, 5, 5, 5, 0, 0), (k_X5_tryRows, 10, 6, 5, 0, 0), (k_X5_take, 3, 3, 5, 0, 0), (k_X6_init, 1, 1, 6, 1, 12), (k_X6_add, 2, 2, 6, 0, 0), (k_X6_toneCount, 3, 1, 6, 0, 0), (k_X6_toneBits, 3, 1, 6, 0, 0), (k_X6_harmonyWith, 5, 2, 6, 0, 0), (k_X7_init, 2, 1, 7, 54, 433), (k_X7_write, 2, 2, 7, 0, 0), (k_X7_wipe, 2, 1, 7, 0, 0), (k_X7_fault, 1, 1, 7, 0, 0), (k_X7_fen, 3, 1, 7, 0, 0), (k_X7_gate, 3, 3, 7, 0, 0), (k_X7_beast, 3, 3, 7, 0, 0), (k_X7_tone, 3, 3, 7, 0, 0), (k_X7_song, 4, 4, 7, 0, 0), (k_X7_sung, 2, 2, 7, 0, 0), (k_X7_drive, 3, 3, 7, 0, 0), (k_X7_open, 2, 2, 7, 0, 0), (k_X7_oil, 2, 2, 7, 0, 0), (k_X7_hang, 4, 3, 7, 0, 0), (k_X7_turnOut, 2, 2, 7, 0, 0), (k_X7_frost, 1, 1, 7, 0, 0), (k_X7_undo, 1, 1, 7, 0, 0), (k_X7_fit, 2, 2, 7, 0, 0), (k_X7_harmony, 5, 5, 7, 0, 0), (k_X7_best, 4, 4, 7, 0, 0), (k_X7_fewest, 3, 2, 7, 0, 0), (k_X7_has, 6, 3, 7, 0, 0), (k_X7_silence, 4, 2, 7, 0, 0), (k_X7_judge, 6, 3, 7, 0, 0), (k_X7_hear, 4, 4, 7, 0, 0), (k_X7_unhear, 2, 1, 7, 0, 0), (k_X7_weights, 4, 2, 7, 0, 0), (k_X7_share, 8, 4, 7, 0, 0), (k_X7_rests, 6, 4, 7, 0, 0), (k_X7_drips, 11, 6, 7, 0, 0), (k_X7_seed, 5, 2, 7, 0, 0), (k_X7_winters, 4, 2, 7, 0, 0), (k_X7_keep, 2, 2, 7, 0, 0), (k_X7_again, 2, 2, 7, 0, 0), (k_X7_count, 2, 2, 7, 0, 0), (k_X7_isSlot, 1, 1, 7, 0, 0), (k_X7_isKind, 1, 1, 7, 0, 0), (k_X7_fitIn, 3, 3, 7, 0, 0), (k_X7_sounds, 3, 2, 7, 0, 0), (k_X7_doesDoing, 4, 4, 7, 0, 0), (k_X7_togglesOpen, 3, 3, 7, 0, 0), (k_X7_togglesOil, 3, 3, 7, 0, 0), (k_X7_turnsOut, 3, 3, 7, 0, 0), (k_X7_goesHome, 4, 4, 7, 0, 0), (k_X7_singersOf, 5, 3, 7, 0, 0), (k_X7_chanceOf, 5, 3, 7, 0, 0), (k_X7_tonesWhenOiled, 4, 4, 7, 0, 0), (k_X7_doChance, 3, 3, 7, 0, 0), (k_X7_fraction, 4, 3, 7, 0, 0), (k_X7_greatestCommon, 6, 2, 7, 0, 0), (k_X8_init, 1, 1, 8, 18, 659), (k_X8_in, 6, 3, 8, 0, 0), (k_X8_bit, 2, 2, 8, 0, 0), (k_X8_ones, 3, 1, 8, 0, 0), (k_X8_write, 2, 2, 8, 0, 0), (k_X8_wipe, 2, 1, 8, 0, 0), (k_X8_figure, 5, 3, 8, 0, 0), (k_X8_letterTone, 3, 2, 8, 0, 0), (k_X8_readText, 1, 1, 8, 0, 0), (k_X8_readPart, 3, 2, 8, 0, 0), (k_X8_fault, 1, 1, 8, 0, 0), (k_X8_fen, 2, 1, 8, 0, 0), (k_X8_isGate, 2, 2, 8, 0, 0), (k_X8_isLane, 2, 2, 8, 0, 0), (k_X8_isBeast, 2, 2, 8, 0, 0), (k_X8_isVerse, 2, 2, 8, 0, 0), (k_X8_toneOf, 7, 5, 8, 0, 0), (k_X8_sing, 4, 4, 8, 0, 0), (k_X8_laySong, 9, 5, 8, 0, 0), (k_X8_loud, 5, 3, 8, 0, 0), (k_X8_addSung, 5, 3, 8, 0, 0), (k_X8_driveOn, 8, 4, 8, 0, 0), (k_X8_lanesOf, 4, 2, 8, 0, 0), (k_X8_gate, 3, 3, 8, 0, 0), (k_X8_beast, 3, 3, 8, 0, 0), (k_X8_tone, 3, 3, 8, 0, 0), (k_X8_song, 5, 4, 8, 0, 0), (k_X8_sungOn, 4, 3, 8, 0, 0), (k_X8_sung, 2, 2, 8, 0, 0), (k_X8_keepAct, 2, 1, 8, 0, 0), (k_X8_canDrive, 4, 4, 8, 0, 0), (k_X8_drive, 3, 3, 8, 0, 0), (k_X8_open, 2, 2, 8, 0, 0), (k_X8_oil, 2, 2, 8, 0, 0), (k_X8_hang, 3, 3, 8, 0, 0), (k_X8_turnOut, 2, 2, 8, 0, 0), (k_X8_frost, 1, 1, 8, 0, 0), (k_X8_undo, 2, 1, 8, 0, 0), (k_X8_fitOn, 5, 3, 8, 0, 0), (k_X8_fit, 2, 2, 8, 0, 0), (k_X8_isSweet, 1, 1, 8, 0, 0), (k_X8_harmonyOf, 7, 3, 8, 0, 0), (k_X8_harmony, 6, 5, 8, 0, 0), (k_X8_layTrial, 2, 1, 8, 0, 0), (k_X8_power, 4, 2, 8, 0, 0), (k_X8_driveRow, 6, 3, 8, 0, 0), (k_X8_told, 7, 3, 8, 0, 0), (k_X8_bestFit, 6, 3, 8, 0, 0), (k_X8_best, 5, 4, 8, 0, 0), (k_X8_fewest, 3, 2, 8, 0, 0), (k_X8_tonesIn, 5, 3, 8, 0, 0), (k_X8_has, 6, 3, 8, 0, 0), (k_X8_isSilent, 5, 3, 8, 0, 0), (k_X8_silence, 5, 2, 8, 0, 0), (k_X8_tryThing, 4, 3, 8, 0, 0), (k_X8_judge, 5, 3, 8, 0, 0), (k_X8_hear, 4, 4, 8, 0, 0), (k_X8_unhear, 2, 1, 8, 0, 0), (k_X8_weights, 7, 2, 8, 0, 0), (k_X8_factorial, 3, 1, 8, 0, 0), (k_X8_common, 5, 2, 8, 0, 0), (k_X8_tonesBy, 5, 3, 8, 0, 0), (k_X8_share, 7, 4, 8, 0, 0), (k_X8_gain, 7, 5, 8, 0, 0), (k_X8_isRest, 7, 5, 8, 0, 0), (k_X8_rests, 7, 4, 8, 0, 0), (k_X8_drips, 10, 6, 8, 0, 0), (k_X8_seed, 5, 2, 8, 0, 0), (k_X8_winters, 5, 2, 8, 0, 0), (k_X8_keep, 3, 2, 8, 0, 0), (k_X8_again, 3, 2, 8, 0, 0), (k_X8_count, 2, 2, 8, 0, 0), (k_J6_bitCount_0f7a4, 1, 1, 0, 0, 0), (k_J9_floorMod_7cf53, 3, 2, 0, 0, 0), (k_J9_abs_0f7a4, 1, 1, 0, 0, 0), (k_J9_min_7cf53, 2, 2, 0, 0, 0)]
def gM : gT := fun y => (gMl[y]?).getD ([], 0, 0, 0, 0, 0)
end
section
/-! ROWS of the abstract machine: one an instruction; the state is (K, R, I, L): shapes, references, ints, longs -/
def grem (x y : Int32) : Int32 := x - x / y * y
def gremL (x y : Int64) : Int64 := x - x / y * y
def gshl (x y : Int32) : Int32 := x <<< (y &&& 31)
def gshr (x y : Int32) : Int32 := x >>> (y &&& 31)
def gushr (x y : Int32) : Int32 := (x.toUInt32 >>> (y.toUInt32 &&& Int32.toUInt32 31)).toInt32
def glushr (x : Int64) (y : Int32) : Int64 := (x.toUInt64 >>> (y.toInt64.toUInt64 &&& Int64.toUInt64 63)).toInt64
def glshl (x : Int64) (y : Int32) : Int64 := x <<< (y.toInt64 &&& 63)
abbrev gx (x : Int32) : Nat := x.toNatClampNeg
section ROWS
variable {M : gT} {d mc ms : Nat} {C : List Instr} {i : Nat} {ls st : List Value} {K : Nat × (Nat → Nat)} {R : Nat → Nat → Nat} {I : Nat → Nat → Int32} {L : Nat → Nat → Int64} {Q : gP}
theorem r_const {n : Int} {v : Int32} (hc : C[i]? = some (.iconst n)) (hv : Int32.ofInt n = v) (h : gW M d mc ms C (i + 1) ls (.int v :: st) (K, R, I, L) Q) : gW M d mc ms C i ls st (K, R, I, L) Q := gW_of hc (by subst hv; exact h)
theorem r_lconst {n : Nat} {v : Int64} (hc : C[i]? = some (.ldc2_w n)) (hv : Int64.ofNat n = v) (h : gW M d mc ms C (i + 1) ls (.long v :: st) (K, R, I, L) Q) : gW M d mc ms C i ls st (K, R, I, L) Q := gW_of hc (by subst hv; exact h)
theorem r_iload {k : Nat} {x : Int32} (hc : C[i]? = some (.iload k)) (hl : ls[k]? = some (.int x)) (h : gW M d mc ms C (i + 1) ls (.int x :: st) (K, R, I, L) Q) : gW M d mc ms C i ls st (K, R, I, L) Q := gW_of hc ⟨x, hl, h⟩
theorem r_lload {k : Nat} {x : Int64} (hc : C[i]? = some (.lload k)) (hl : ls[k]? = some (.long x)) (h : gW M d mc ms C (i + 1) ls (.long x :: st) (K, R, I, L) Q) : gW M d mc ms C i ls st (K, R, I, L) Q := gW_of hc ⟨x, hl, h⟩
theorem r_aload {k : Nat} {x : Nat} (hc : C[i]? = some (.aload k)) (hl : ls[k]? = some (.ref x)) (h : gW M d mc ms C (i + 1) ls (.ref x :: st) (K, R, I, L) Q) : gW M d mc ms C i ls st (K, R, I, L) Q := gW_of hc ⟨x, hl, h⟩
theorem r_istore {k : Nat} {x : Int32} (ls1 : List Value) (hc : C[i]? = some (.istore k)) (hok : gok ls k = true) (hlt : k < ls.length) (he : ls.set k (.int x) = ls1) (h : gW M d mc ms C (i + 1) ls1 st (K, R, I, L) Q) : gW M d mc ms C i ls (.int x :: st) (K, R, I, L) Q := gW_of hc ⟨x, st, rfl, hok, hlt, by subst he; exact h⟩
theorem r_astore {k : Nat} {x : Nat} (ls1 : List Value) (hc : C[i]? = some (.astore k)) (hok : gok ls k = true) (hlt : k < ls.length) (he : ls.set k (.ref x) = ls1) (h : gW M d mc ms C (i + 1) ls1 st (K, R, I, L) Q) : gW M d mc ms C i ls (.ref x :: st) (K, R, I, L) Q := gW_of hc ⟨x, st, rfl, hok, hlt, by subst he; exact h⟩
theorem r_lstore {k : Nat} {x : Int64} (ls1 : List Value) (hc : C[i]? = some (.lstore k)) (hok : gok ls k = true) (hlt : k + 1 < ls.length) (he : (ls.set k (.long x)).set (k + 1) .null = ls1) (h : gW M d mc ms C (i + 1) ls1 st (K, R, I, L) Q) : gW M d mc ms C i ls (.long x :: st) (K, R, I, L) Q := gW_of hc ⟨x, st, rfl, hok, hlt, by subst he; exact h⟩
theorem r_iinc {k : Nat} {n : Int} {x y : Int32} (ls1 : List Value) (hc : C[i]? = some (.iinc k n)) (hl : ls[k]? = some (.int x)) (hok : gok ls k = true) (hy : x + Int32.ofInt n = y) (he : ls.set k (.int y) = ls1) (h : gW M d mc ms C (i + 1) ls1 st (K, R, I, L) Q) : gW M d mc ms C i ls st (K, R, I, L) Q := gW_of hc ⟨x, hl, hok, by subst hy; subst he; exact h⟩
theorem r_getI {e a c k : Nat} (hc : C[i]? = some (.getfield e)) (hs : K.2 a = c) (he : e / 64 = c ∧ e % 64 = k) (h : gW M d mc ms C (i + 1) ls (.int (I a k) :: st) (K, R, I, L) Q) : gW M d mc ms C i ls (.ref a :: st) (K, R, I, L) Q := gW_of hc ⟨a, st, rfl, hs.trans he.1.symm, by rw [he.2]; exact h⟩
theorem r_getL {e a c k : Nat} (hc : C[i]? = some (.dload e)) (hs : K.2 a = c) (he : e / 64 = c ∧ e % 64 = k) (h : gW M d mc ms C (i + 1) ls (.long (L a k) :: st) (K, R, I, L) Q) : gW M d mc ms C i ls (.ref a :: st) (K, R, I, L) Q := gW_of hc ⟨a, st, rfl, hs.trans he.1.symm, by rw [he.2]; exact h⟩
theorem r_getR {e a c k : Nat} (hc : C[i]? = some (.getstatic e)) (hs : K.2 a = c) (he : e / 64 = c ∧ e % 64 = k) {v : Nat} (hv : R a k = v) (h : gW M d mc ms C (i + 1) ls (.ref v :: st) (K, R, I, L) Q) : gW M d mc ms C i ls (.ref a :: st) (K, R, I, L) Q := gW_of hc ⟨a, st, rfl, hs.trans he.1.symm, by rw [he.2]; subst hv; exact h⟩
theorem r_putI {x : Int32} {e a c k : Nat} (hc : C[i]? = some (.putfield e)) (hs : K.2 a = c) (he : e / 64 = c ∧ e % 64 = k) (h : gW M d mc ms C (i + 1) ls st (K, R, gu2 I a k x, L) Q) : gW M d mc ms C i ls (.int x :: .ref a :: st) (K, R, I, L) Q := gW_of hc ⟨x, a, st, rfl, hs.trans he.1.symm, by rw [he.2]; exact h⟩
theorem r_putL {x : Int64} {e a c k : Nat} (hc : C[i]? = some (.dstore e)) (hs : K.2 a = c) (he : e / 64 = c ∧ e % 64 = k) (h : gW M d mc ms C (i + 1) ls st (K, R, I, gu2 L a k x) Q) : gW M d mc ms C i ls (.long x :: .ref a :: st) (K, R, I, L) Q := gW_of hc ⟨x, a, st, rfl, hs.trans he.1.symm, by rw [he.2]; exact h⟩
theorem r_putR {x : Nat} {e a c k : Nat} (hc : C[i]? = some (.putstatic e)) (hs : K.2 a = c) (he : e / 64 = c ∧ e % 64 = k) (h : gW M d mc ms C (i + 1) ls st (K, gu2 R a k x, I, L) Q) : gW M d mc ms C i ls (.ref x :: .ref a :: st) (K, R, I, L) Q := gW_of hc ⟨x, a, st, rfl, hs.trans he.1.symm, by rw [he.2]; exact h⟩
theorem r_iaload {a n : Nat} {j : Int32} (hc : C[i]? = some .iaload) (hs : K.2 a = 100 + 3 * n) (hj : vp_in j n) (h : gW M d mc ms C (i + 1) ls (.int (I a (gx j)) :: st) (K, R, I, L) Q) : gW M d mc ms C i ls (.int j :: .ref a :: st) (K, R, I, L) Q := gW_of hc ⟨j, a, st, n, rfl, hs, hj, h⟩
theorem r_baload {a n : Nat} {j : Int32} (hc : C[i]? = some .baload) (hs : K.2 a = 101 + 3 * n) (hj : vp_in j n) (h : gW M d mc ms C (i + 1) ls (.int (I a (gx j)) :: st) (K, R, I, L) Q) : gW M d mc ms C i ls (.int j :: .ref a :: st) (K, R, I, L) Q := gW_of hc ⟨j, a, st, n, rfl, hs, hj, h⟩
theorem r_aaload {a n : Nat} {j : Int32} (hc : C[i]? = some .aaload) (hs : K.2 a = 102 + 3 * n) (hj : vp_in j n) {v : Nat} (hv : R a (gx j) = v) (h : gW M d mc ms C (i + 1) ls (.ref v :: st) (K, R, I, L) Q) : gW M d mc ms C i ls (.int j :: .ref a :: st) (K, R, I, L) Q := gW_of hc ⟨j, a, st, n, rfl, hs, hj, by subst hv; exact h⟩
theorem r_iastore {x : Int32} {a n : Nat} {j : Int32} (hc : C[i]? = some .iastore) (hs : K.2 a = 100 + 3 * n) (hj : vp_in j n) (h1 : a ≠ 1) (h : gW M d mc ms C (i + 1) ls st (K, R, gu2 I a (gx j) x, L) Q) : gW M d mc ms C i ls (.int x :: .int j :: .ref a :: st) (K, R, I, L) Q := gW_of hc ⟨x, j, a, st, n, rfl, hs, h1, hj, h⟩
theorem r_bastore {x : Int32} {a n : Nat} {j : Int32} (hc : C[i]? = some .bastore) (hs : K.2 a = 101 + 3 * n) (hj : vp_in j n) (h1 : x = 0 ∨ x = 1) (h : gW M d mc ms C (i + 1) ls st (K, R, gu2 I a (gx j) x, L) Q) : gW M d mc ms C i ls (.int x :: .int j :: .ref a :: st) (K, R, I, L) Q := gW_of hc ⟨x, j, a, st, n, rfl, hs, h1, hj, h⟩
theorem r_aastore {x : Nat} {a n : Nat} {j : Int32} (hc : C[i]? = some .aastore) (hs : K.2 a = 102 + 3 * n) (hj : vp_in j n) (h1 : K.2 x = 4) (h : gW M d mc ms C (i + 1) ls st (K, gu2 R a (gx j) x, I, L) Q) : gW M d mc ms C i ls (.ref x :: .int j :: .ref a :: st) (K, R, I, L) Q := gW_of hc ⟨x, j, a, st, n, rfl, hs, h1, hj, h⟩
theorem r_alen {a : Nat} (n k : Nat) {v : Int32} (hc : C[i]? = some .arraylength) (hs : K.2 a = 100 + k + 3 * n) (hk : k < 3) (hv : Int32.ofNat n = v) (h : gW M d mc ms C (i + 1) ls (.int v :: st) (K, R, I, L) Q) : gW M d mc ms C i ls (.ref a :: st) (K, R, I, L) Q := gW_of hc ⟨a, st, n, k, rfl, hs, hk, by subst hv; exact h⟩
theorem r_iadd {x y : Int32} (hc : C[i]? = some .iadd) (h : gW M d mc ms C (i + 1) ls (.int (x + y) :: st) (K, R, I, L) Q) : gW M d mc ms C i ls (.int y :: .int x :: st) (K, R, I, L) Q := gW_of hc ⟨x, y, st, rfl, h⟩
theorem r_isub {x y : Int32} (hc : C[i]? = some .isub) (h : gW M d mc ms C (i + 1) ls (.int (x - y) :: st) (K, R, I, L) Q) : gW M d mc ms C i ls (.int y :: .int x :: st) (K, R, I, L) Q := gW_of hc ⟨x, y, st, rfl, h⟩
theorem r_imul {x y : Int32} (hc : C[i]? = some .imul) (h : gW M d mc ms C (i + 1) ls (.int (x * y) :: st) (K, R, I, L) Q) : gW M d mc ms C i ls (.int y :: .int x :: st) (K, R, I, L) Q := gW_of hc ⟨x, y, st, rfl, h⟩
theorem r_iand {x y : Int32} (hc : C[i]? = some .iand) (h : gW M d mc ms C (i + 1) ls (.int (x &&& y) :: st) (K, R, I, L) Q) : gW M d mc ms C i ls (.int y :: .int x :: st) (K, R, I, L) Q := gW_of hc ⟨x, y, st, rfl, h⟩
theorem r_ior {x y : Int32} (hc : C[i]? = some .ior) (h : gW M d mc ms C (i + 1) ls (.int (x ||| y) :: st) (K, R, I, L) Q) : gW M d mc ms C i ls (.int y :: .int x :: st) (K, R, I, L) Q := gW_of hc ⟨x, y, st, rfl, h⟩
theorem r_ixor {x y : Int32} (hc : C[i]? = some .ixor) (h : gW M d mc ms C (i + 1) ls (.int (x ^^^ y) :: st) (K, R, I, L) Q) : gW M d mc ms C i ls (.int y :: .int x :: st) (K, R, I, L) Q := gW_of hc ⟨x, y, st, rfl, h⟩
theorem r_ishl {x y : Int32} (hc : C[i]? = some .ishl) (h : gW M d mc ms C (i + 1) ls (.int (gshl x y) :: st) (K, R, I, L) Q) : gW M d mc ms C i ls (.int y :: .int x :: st) (K, R, I, L) Q := gW_of hc ⟨x, y, st, rfl, h⟩
theorem r_ishr {x y : Int32} (hc : C[i]? = some .ishr) (h : gW M d mc ms C (i + 1) ls (.int (gshr x y) :: st) (K, R, I, L) Q) : gW M d mc ms C i ls (.int y :: .int x :: st) (K, R, I, L) Q := gW_of hc ⟨x, y, st, rfl, h⟩
theorem r_iushr {x y : Int32} (hc : C[i]? = some .iushr) (h : gW M d mc ms C (i + 1) ls (.int (gushr x y) :: st) (K, R, I, L) Q) : gW M d mc ms C i ls (.int y :: .int x :: st) (K, R, I, L) Q := gW_of hc ⟨x, y, st, rfl, h⟩
theorem r_idiv {x y : Int32} (hc : C[i]? = some .idiv) (hn : ¬ y = 0) (h : gW M d mc ms C (i + 1) ls (.int (x / y) :: st) (K, R, I, L) Q) : gW M d mc ms C i ls (.int y :: .int x :: st) (K, R, I, L) Q := gW_of hc ⟨x, y, st, rfl, hn, h⟩
theorem r_irem {x y : Int32} (hc : C[i]? = some .irem) (hn : ¬ y = 0) (h : gW M d mc ms C (i + 1) ls (.int (grem x y) :: st) (K, R, I, L) Q) : gW M d mc ms C i ls (.int y :: .int x :: st) (K, R, I, L) Q := gW_of hc ⟨x, y, st, rfl, hn, h⟩
theorem r_ineg {x : Int32} (hc : C[i]? = some .ineg) (h : gW M d mc ms C (i + 1) ls (.int (-x) :: st) (K, R, I, L) Q) : gW M d mc ms C i ls (.int x :: st) (K, R, I, L) Q := gW_of hc ⟨x, st, rfl, h⟩
theorem r_ladd {x y : Int64} (hc : C[i]? = some .ladd) (h : gW M d mc ms C (i + 1) ls (.long (x + y) :: st) (K, R, I, L) Q) : gW M d mc ms C i ls (.long y :: .long x :: st) (K, R, I, L) Q := gW_of hc ⟨x, y, st, rfl, h⟩
theorem r_lmul {x y : Int64} (hc : C[i]? = some .lmul) (h : gW M d mc ms C (i + 1) ls (.long (x * y) :: st) (K, R, I, L) Q) : gW M d mc ms C i ls (.long y :: .long x :: st) (K, R, I, L) Q := gW_of hc ⟨x, y, st, rfl, h⟩
theorem r_land {x y : Int64} (hc : C[i]? = some .land) (h : gW M d mc ms C (i + 1) ls (.long (x &&& y) :: st) (K, R, I, L) Q) : gW M d mc ms C i ls (.long y :: .long x :: st) (K, R, I, L) Q := gW_of hc ⟨x, y, st, rfl, h⟩
theorem r_lor {x y : Int64} (hc : C[i]? = some .lor) (h : gW M d mc ms C (i + 1) ls (.long (x ||| y) :: st) (K, R, I, L) Q) : gW M d mc ms C i ls (.long y :: .long x :: st) (K, R, I, L) Q := gW_of hc ⟨x, y, st, rfl, h⟩
theorem r_lrem {x y : Int64} (hc : C[i]? = some .lrem) (hn : ¬ y = 0) (h : gW M d mc ms C (i + 1) ls (.long (gremL x y) :: st) (K, R, I, L) Q) : gW M d mc ms C i ls (.long y :: .long x :: st) (K, R, I, L) Q := gW_of hc ⟨x, y, st, rfl, hn, h⟩
theorem r_lushr {x : Int64} {y : Int32} (hc : C[i]? = some .lushr) (h : gW M d mc ms C (i + 1) ls (.long (glushr x y) :: st) (K, R, I, L) Q) : gW M d mc ms C i ls (.int y :: .long x :: st) (K, R, I, L) Q := gW_of hc ⟨x, y, st, rfl, h⟩
theorem r_lshl {x : Int64} {y : Int32} (hc : C[i]? = some .lshl) (h : gW M d mc ms C (i + 1) ls (.long (glshl x y) :: st) (K, R, I, L) Q) : gW M d mc ms C i ls (.int y :: .long x :: st) (K, R, I, L) Q := gW_of hc ⟨x, y, st, rfl, h⟩
theorem r_lcmp {x y : Int64} (hc : C[i]? = some .lcmp) (h : gW M d mc ms C (i + 1) ls (.int (lg_cmp x y) :: st) (K, R, I, L) Q) : gW M d mc ms C i ls (.long y :: .long x :: st) (K, R, I, L) Q := gW_of hc ⟨x, y, st, rfl, h⟩
theorem r_i2l {x : Int32} (hc : C[i]? = some .i2l) (h : gW M d mc ms C (i + 1) ls (.long x.toInt64 :: st) (K, R, I, L) Q) : gW M d mc ms C i ls (.int x :: st) (K, R, I, L) Q := gW_of hc ⟨x, st, rfl, h⟩
theorem r_l2i {x : Int64} (hc : C[i]? = some .l2i) (h : gW M d mc ms C (i + 1) ls (.int x.toInt32 :: st) (K, R, I, L) Q) : gW M d mc ms C i ls (.long x :: st) (K, R, I, L) Q := gW_of hc ⟨x, st, rfl, h⟩
theorem r_dup {v : Value} (hc : C[i]? = some .dup) (hv : v.category = 1) (h : gW M d mc ms C (i + 1) ls (v :: v :: st) (K, R, I, L) Q) : gW M d mc ms C i ls (v :: st) (K, R, I, L) Q := gW_of hc ⟨v, st, rfl, hv, h⟩
theorem r_dup2 {v u : Value} (hc : C[i]? = some .dup2) (hv : v.category = 1) (hu : u.category = 1) (h : gW M d mc ms C (i + 1) ls (v :: u :: v :: u :: st) (K, R, I, L) Q) : gW M d mc ms C i ls (v :: u :: st) (K, R, I, L) Q := gW_of hc ⟨v, u, st, rfl, hv, hu, h⟩
theorem r_pop {v : Value} (hc : C[i]? = some .pop) (hv : v.category = 1) (h : gW M d mc ms C (i + 1) ls st (K, R, I, L) Q) : gW M d mc ms C i ls (v :: st) (K, R, I, L) Q := gW_of hc ⟨v, st, rfl, hv, h⟩
theorem r_iret {x : Int32} (hc : C[i]? = some .ireturn) (h : Q (some (.int x)) (K, R, I, L)) : gW M d mc ms C i ls [.int x] (K, R, I, L) Q := gW_of hc ⟨x, rfl, h⟩
theorem r_zret {x : Int32} (hc : C[i]? = some .freturn) (h1 : x = 0 ∨ x = 1) (h : Q (some (.int x)) (K, R, I, L)) : gW M d mc ms C i ls [.int x] (K, R, I, L) Q := gW_of hc ⟨x, rfl, h1, h⟩
theorem r_lret {x : Int64} (hc : C[i]? = some .lreturn) (h : Q (some (.long x)) (K, R, I, L)) : gW M d mc ms C i ls [.long x] (K, R, I, L) Q := gW_of hc ⟨x, rfl, h⟩
theorem r_vret (hc : C[i]? = some .return_) (h : Q none (K, R, I, L)) : gW M d mc ms C i ls [] (K, R, I, L) Q := gW_of hc ⟨rfl, h⟩
theorem r_icmp_eq {x y : Int32} (t : Nat) {T : Int} (hc : C[i]? = some (.if_icmp .eq T)) (ht : T.toNat = t) (h1 : x = y → gW M d mc ms C t ls st (K, R, I, L) Q) (h2 : ¬ (x = y) → gW M d mc ms C (i + 1) ls st (K, R, I, L) Q) : gW M d mc ms C i ls (.int y :: .int x :: st) (K, R, I, L) Q := gW_of hc ⟨x, y, st, rfl, fun z => by subst ht; exact h1 z, h2⟩
theorem r_if_eq {x : Int32} (t : Nat) {T : Int} (hc : C[i]? = some (.ifCond .eq T)) (ht : T.toNat = t) (h1 : x = 0 → gW M d mc ms C t ls st (K, R, I, L) Q) (h2 : ¬ (x = 0) → gW M d mc ms C (i + 1) ls st (K, R, I, L) Q) : gW M d mc ms C i ls (.int x :: st) (K, R, I, L) Q := gW_of hc ⟨x, st, rfl, fun z => by subst ht; exact h1 z, h2⟩
theorem r_icmp_ne {x y : Int32} (t : Nat) {T : Int} (hc : C[i]? = some (.if_icmp .ne T)) (ht : T.toNat = t) (h1 : ¬ x = y → gW M d mc ms C t ls st (K, R, I, L) Q) (h2 : ¬ (¬ x = y) → gW M d mc ms C (i + 1) ls st (K, R, I, L) Q) : gW M d mc ms C i ls (.int y :: .int x :: st) (K, R, I, L) Q := gW_of hc ⟨x, y, st, rfl, fun z => by subst ht; exact h1 z, h2⟩
theorem r_if_ne {x : Int32} (t : Nat) {T : Int} (hc : C[i]? = some (.ifCond .ne T)) (ht : T.toNat = t) (h1 : ¬ x = 0 → gW M d mc ms C t ls st (K, R, I, L) Q) (h2 : ¬ (¬ x = 0) → gW M d mc ms C (i + 1) ls st (K, R, I, L) Q) : gW M d mc ms C i ls (.int x :: st) (K, R, I, L) Q := gW_of hc ⟨x, st, rfl, fun z => by subst ht; exact h1 z, h2⟩
theorem r_icmp_lt {x y : Int32} (t : Nat) {T : Int} (hc : C[i]? = some (.if_icmp .lt T)) (ht : T.toNat = t) (h1 : x < y → gW M d mc ms C t ls st (K, R, I, L) Q) (h2 : ¬ (x < y) → gW M d mc ms C (i + 1) ls st (K, R, I, L) Q) : gW M d mc ms C i ls (.int y :: .int x :: st) (K, R, I, L) Q := gW_of hc ⟨x, y, st, rfl, fun z => by subst ht; exact h1 z, h2⟩
theorem r_if_lt {x : Int32} (t : Nat) {T : Int} (hc : C[i]? = some (.ifCond .lt T)) (ht : T.toNat = t) (h1 : x < 0 → gW M d mc ms C t ls st (K, R, I, L) Q) (h2 : ¬ (x < 0) → gW M d mc ms C (i + 1) ls st (K, R, I, L) Q) : gW M d mc ms C i ls (.int x :: st) (K, R, I, L) Q := gW_of hc ⟨x, st, rfl, fun z => by subst ht; exact h1 z, h2⟩
theorem r_icmp_ge {x y : Int32} (t : Nat) {T : Int} (hc : C[i]? = some (.if_icmp .ge T)) (ht : T.toNat = t) (h1 : y ≤ x → gW M d mc ms C t ls st (K, R, I, L) Q) (h2 : ¬ (y ≤ x) → gW M d mc ms C (i + 1) ls st (K, R, I, L) Q) : gW M d mc ms C i ls (.int y :: .int x :: st) (K, R, I, L) Q := gW_of hc ⟨x, y, st, rfl, fun z => by subst ht; exact h1 z, h2⟩
theorem r_if_ge {x : Int32} (t : Nat) {T : Int} (hc : C[i]? = some (.ifCond .ge T)) (ht : T.toNat = t) (h1 : 0 ≤ x → gW M d mc ms C t ls st (K, R, I, L) Q) (h2 : ¬ (0 ≤ x) → gW M d mc ms C (i + 1) ls st (K, R, I, L) Q) : gW M d mc ms C i ls (.int x :: st) (K, R, I, L) Q := gW_of hc ⟨x, st, rfl, fun z => by subst ht; exact h1 z, h2⟩
theorem r_icmp_gt {x y : Int32} (t : Nat) {T : Int} (hc : C[i]? = some (.if_icmp .gt T)) (ht : T.toNat = t) (h1 : y < x → gW M d mc ms C t ls st (K, R, I, L) Q) (h2 : ¬ (y < x) → gW M d mc ms C (i + 1) ls st (K, R, I, L) Q) : gW M d mc ms C i ls (.int y :: .int x :: st) (K, R, I, L) Q := gW_of hc ⟨x, y, st, rfl, fun z => by subst ht; exact h1 z, h2⟩
theorem r_if_gt {x : Int32} (t : Nat) {T : Int} (hc : C[i]? = some (.ifCond .gt T)) (ht : T.toNat = t) (h1 : 0 < x → gW M d mc ms C t ls st (K, R, I, L) Q) (h2 : ¬ (0 < x) → gW M d mc ms C (i + 1) ls st (K, R, I, L) Q) : gW M d mc ms C i ls (.int x :: st) (K, R, I, L) Q := gW_of hc ⟨x, st, rfl, fun z => by subst ht; exact h1 z, h2⟩
theorem r_icmp_le {x y : Int32} (t : Nat) {T : Int} (hc : C[i]? = some (.if_icmp .le T)) (ht : T.toNat = t) (h1 : x ≤ y → gW M d mc ms C t ls st (K, R, I, L) Q) (h2 : ¬ (x ≤ y) → gW M d mc ms C (i + 1) ls st (K, R, I, L) Q) : gW M d mc ms C i ls (.int y :: .int x :: st) (K, R, I, L) Q := gW_of hc ⟨x, y, st, rfl, fun z => by subst ht; exact h1 z, h2⟩
theorem r_if_le {x : Int32} (t : Nat) {T : Int} (hc : C[i]? = some (.ifCond .le T)) (ht : T.toNat = t) (h1 : x ≤ 0 → gW M d mc ms C t ls st (K, R, I, L) Q) (h2 : ¬ (x ≤ 0) → gW M d mc ms C (i + 1) ls st (K, R, I, L) Q) : gW M d mc ms C i ls (.int x :: st) (K, R, I, L) Q := gW_of hc ⟨x, st, rfl, fun z => by subst ht; exact h1 z, h2⟩
theorem r_goto (t : Nat) {T : Int} (hc : C[i]? = some (.goto T)) (ht : T.toNat = t) (h : gW M d mc ms C t ls st (K, R, I, L) Q) : gW M d mc ms C i ls st (K, R, I, L) Q := gW_of hc (by subst ht; exact h)
theorem r_tsw {x : Int32} {df lo hi : Int} {os : Array Int} (t : Nat) (hc : C[i]? = some (.tableswitch df lo hi os)) (ht : gtab df lo hi os x = t) (h : gW M d mc ms C t ls st (K, R, I, L) Q) : gW M d mc ms C i ls (.int x :: st) (K, R, I, L) Q := gW_of hc ⟨x, st, rfl, by subst ht; exact h⟩
theorem r_lsw {x : Int32} {df : Int} {ps : Array (Int × Int)} (t : Nat) (hc : C[i]? = some (.lookupswitch df ps)) (ht : glook df ps x = t) (h : gW M d mc ms C t ls st (K, R, I, L) Q) : gW M d mc ms C i ls (.int x :: st) (K, R, I, L) Q := gW_of hc ⟨x, st, rfl, by subst ht; exact h⟩
theorem r_invs {y : Nat} (as : List Value) {st0 : List Value} (hc : C[i]? = some (.invokestatic y)) (hst : st0 = as.reverse ++ st) (hn : as.length = (M y).2.2.1) (hz : glaz (M y).2.1 as = true) (hr : gcat st ≤ 8) (hm : (M y).2.2.2.2.1 = 0 ∧ (M y).2.2.2.2.2 = 0) (h : gR M d y as (K, R, I, L) (fun v σ => gW M (d + 1) mc ms C (i + 1) ls (v.toList ++ st) σ Q)) : gW M (d + 1) mc ms C i ls st0 (K, R, I, L) Q := gW_of hc ⟨as, st, hst, ⟨⟨hn, hz⟩, hr, by rw [hm.1]; exact Nat.zero_le _, by rw [hm.2]; exact Nat.zero_le _, d, _, rfl, h, fun v σ z => by rw [hm.1, hm.2]; exact z⟩⟩
theorem r_invv {y a : Nat} (as : List Value) {st0 : List Value} (hc : C[i]? = some (.invokevirtual y)) (hst : st0 = as.reverse ++ .ref a :: st) (hs : K.2 a = (M y).2.2.2.1) (hn : as.length + 1 = (M y).2.2.1) (hz : glaz (M y).2.1 (.ref a :: as) = true) (hr : gcat st ≤ 8) (hm : (M y).2.2.2.2.1 = 0 ∧ (M y).2.2.2.2.2 = 0) (h : gR M d y (.ref a :: as) (K, R, I, L) (fun v σ => gW M (d + 1) mc ms C (i + 1) ls (v.toList ++ st) σ Q)) : gW M (d + 1) mc ms C i ls st0 (K, R, I, L) Q := gW_of hc ⟨a, as, st, hst, hs, ⟨⟨hn, hz⟩, hr, by rw [hm.1]; exact Nat.zero_le _, by rw [hm.2]; exact Nat.zero_le _, d, _, rfl, h, fun v σ z => by rw [hm.1, hm.2]; exact z⟩⟩
theorem r_new {e x n : Nat} (hc : C[i]? = some (.new e)) (he : e / 64 = x ∧ e % 64 = n) (h1 : 1 ≤ mc) (h2 : n ≤ ms) (h : gW M d (mc - 1) (ms - n) C (i + 1) ls (.ref (K.1 + 2) :: st) (gnw (K, R, I, L) x) Q) : gW M d mc ms C i ls st (K, R, I, L) Q := gW_of hc (by obtain ⟨rfl, rfl⟩ := he; exact ⟨h1, h2, h⟩)
theorem r_newi {t : ArrayType} {x : Int32} (N kd : Nat) (hc : C[i]? = some (.newarray t)) (hx : x = Int32.ofNat N) (hN : N ≤ 1000) (hk : gkd t = kd) (hk3 : kd < 3) (h1 : 1 ≤ mc) (h2 : N ≤ ms) (h : gW M d (mc - 1) (ms - N) C (i + 1) ls (.ref (K.1 + 2) :: st) (gnw (K, R, I, L) (100 + kd + 3 * N)) Q) : gW M d mc ms C i ls (.int x :: st) (K, R, I, L) Q := gW_of hc (by subst hk; exact ⟨x, st, N, rfl, hx, hN, hk3, h1, h2, h⟩)
theorem r_newr {k : Nat} {x : Int32} (N : Nat) (hc : C[i]? = some (.anewarray k)) (hx : x = Int32.ofNat N) (hN : N ≤ 1000) (h1 : 1 ≤ mc) (h2 : N ≤ ms) (h : gW M d (mc - 1) (ms - N) C (i + 1) ls (.ref (K.1 + 2) :: st) (gnw (K, R, I, L) (102 + 3 * N)) Q) : gW M d mc ms C i ls (.int x :: st) (K, R, I, L) Q := gW_of hc ⟨x, st, N, rfl, hx, hN, h1, h2, h⟩
theorem r_obj {a : Nat} (hc : C[i]? = some .monitorexit) (hs : K.2 a < 99) (hr : gcat st ≤ 8) (h : gW M (d + 1) mc ms C (i + 1) ls st (K, R, I, L) Q) : gW M (d + 1) mc ms C i ls (.ref a :: st) (K, R, I, L) Q := gW_of hc ⟨a, st, rfl, hs, Nat.le_add_left 1 d, hr, h⟩
theorem r_invi {y a : Nat} (as : List Value) {st0 : List Value} (hc : C[i]? = some (.invokespecial y)) (hst : st0 = as.reverse ++ .ref a :: st) (hs : K.2 a = (M y).2.2.2.1) (hn : as.length + 1 = (M y).2.2.1) (hz : glaz (M y).2.1 (.ref a :: as) = true) (hr : gcat st ≤ 8) (h1 : (M y).2.2.2.2.1 ≤ mc) (h2 : (M y).2.2.2.2.2 ≤ ms) (h : gR M d y (.ref a :: as) (K, R, I, L) (fun v σ => gW M (d + 1) (mc - (M y).2.2.2.2.1) (ms - (M y).2.2.2.2.2) C (i + 1) ls (v.toList ++ st) σ Q)) : gW M (d + 1) mc ms C i ls st0 (K, R, I, L) Q := gW_of hc ⟨a, as, st, hst, hs, ⟨hn, hz⟩, hr, h1, h2, d, _, rfl, h, fun v σ z => z⟩
end ROWS
end
section
/-! THE WORLD behind the two constructors: shapes gKn (n: the script's length), references gRf (f: the Fen that is, g: the draft) -/
def gshL (n : Nat) : List Nat := [99, 100 + 3 * n, 7, 280, 1, 115, 115, 127, 115, 115, 124, 1, 115, 115, 127, 115, 115, 124, 4, 4, 0, 144, 4, 4, 4, 4, 4, 4, 4, 4, 4, 4, 4, 4, 4, 4, 108, 4, 4, 107, 2, 118, 118, 118, 5, 108, 6, 136, 4, 4, 3, 127, 127, 6, 136, 6, 136, 8, 115, 127, 115, 115, 124, 262, 130, 127, 130, 124, 280, 172, 1234, 118, 118, 118, 107, 262]
def gKn (n : Nat) : Nat × (Nat → Nat) := (74, fun a => ((gshL n)[a]?).getD 99)
def grfL (f g : Nat) : List (List Nat) := [[], [], [3, 0, f, g, 18, 19, 20, 36, 39, 40, 44, 50, 53, 55], [], [0, 0, 0, 0, 0, 5, 6, 7, 8, 9, 10], [], [], [], [], [], [], [0, 0, 0, 0, 0, 12, 13, 14, 15, 16, 17], [], [], [], [], [], [], [], [], [21], [22, 23, 24, 25, 26, 27, 28, 29, 30, 31, 32, 33, 34, 35], [], [], [], [], [], [], [], [], [], [], [], [], [], [], [37, 38], [], [], [], [41, 42, 43], [], [], [], [45, 46], [48, 49], [47], [], [], [], [51, 52], [], [], [54], [], [56], [], [0, 0, 0, 0, 58, 59, 60, 61, 62, 63, 64, 65, 66, 67, 0, 0, 0, 0, 0, 68, 0, 0, 0, 69, 0, 0, 0, 70, 0, 0, 71, 72, 73, 0, 74, 75], [], [], [], [], [], [], [], [], [], [], [], [], [], [], [], [], [], []]
def gRf (f g : Nat) : Nat → Nat → Nat := fun a j => ((((grfL f g)[a]?).getD [])[j]?).getD 0
def gfe (a : Nat) : Bool := a == 4 || a == 11
def gmo (a : Nat) : Bool := (18 ≤ a && a ≤ 19) || (22 ≤ a && a ≤ 35) || (37 ≤ a && a ≤ 38) || (48 ≤ a && a ≤ 49)
def gso (a : Nat) : Bool := a == 46 || a == 53 || a == 55
def gfw (f g : Nat) : Prop := (f = 4 ∧ g = 11) ∨ (f = 11 ∧ g = 4)
theorem gfw.f {f g : Nat} (h : gfw f g) : gfe f = true := by rcases h with ⟨rfl, rfl⟩ | ⟨rfl, rfl⟩ <;> rfl
theorem gfw.g {f g : Nat} (h : gfw f g) : gfe g = true := by rcases h with ⟨rfl, rfl⟩ | ⟨rfl, rfl⟩ <;> rfl
theorem gfe_or {a : Nat} (h : gfe a = true) : a = 4 ∨ a = 11 := by simpa [gfe] using h
theorem gso_or {a : Nat} (h : gso a = true) : a = 46 ∨ a = 53 ∨ a = 55 := by simpa [gso, or_assoc] using h
theorem gmo_or {a : Nat} (h : gmo a = true) : (18 ≤ a ∧ a ≤ 19) ∨ (22 ≤ a ∧ a ≤ 35) ∨ (37 ≤ a ∧ a ≤ 38) ∨ (48 ≤ a ∧ a ≤ 49) := by simpa [gmo, or_assoc] using h
theorem shFen {n a : Nat} (h : gfe a = true) : (gKn n).2 a = 1 := by rcases gfe_or h with rfl | rfl <;> rfl
theorem shSong {n a : Nat} (h : gso a = true) : (gKn n).2 a = 6 := by rcases gso_or h with rfl | rfl | rfl <;> rfl
theorem shSong0 {n a : Nat} (h : gso a = true) : (gKn n).2 (a + 1) = 100 + 3 * 12 := by rcases gso_or h with rfl | rfl | rfl <;> rfl
theorem rfSong {f g a : Nat} (h : gso a = true) : gRf f g a 0 = a + 1 := by rcases gso_or h with rfl | rfl | rfl <;> rfl
theorem gmoAll (P : Nat → Prop) (h1 : P 18) (h2 : P 19) (h3 : ∀ j, j < 14 → P (22 + j)) (h4 : P 37) (h5 : P 38) (h6 : P 48) (h7 : P 49) {a : Nat} (h : gmo a = true) : P a := by
  have h := gmo_or h
  rcases h with h | h | h | h
  · rcases (by omega : a = 18 ∨ a = 19) with rfl | rfl <;> assumption
  · have := h3 (a - 22) (by omega)
    rwa [show 22 + (a - 22) = a by omega] at this
  · rcases (by omega : a = 37 ∨ a = 38) with rfl | rfl <;> assumption
  · rcases (by omega : a = 48 ∨ a = 49) with rfl | rfl <;> assumption
theorem g14 (P : Nat → Prop) (h0 : P 0) (h1 : P 1) (h2 : P 2) (h3 : P 3) (h4 : P 4) (h5 : P 5) (h6 : P 6) (h7 : P 7) (h8 : P 8) (h9 : P 9) (h10 : P 10) (h11 : P 11) (h12 : P 12) (h13 : P 13) (j : Nat) (hj : j < 14) : P j := by
  rcases (by omega : j = 0 ∨ j = 1 ∨ j = 2 ∨ j = 3 ∨ j = 4 ∨ j = 5 ∨ j = 6 ∨ j = 7 ∨ j = 8 ∨ j = 9 ∨ j = 10 ∨ j = 11 ∨ j = 12 ∨ j = 13) with rfl | rfl | rfl | rfl | rfl | rfl | rfl | rfl | rfl | rfl | rfl | rfl | rfl | rfl <;> assumption
theorem shMom {n a : Nat} (h : gmo a = true) : (gKn n).2 a = 4 := gmoAll (fun a => (gKn n).2 a = 4) rfl rfl (g14 (fun j => (gKn n).2 (22 + j) = 4) rfl rfl rfl rfl rfl rfl rfl rfl rfl rfl rfl rfl rfl rfl) rfl rfl rfl rfl h
theorem gx_lt {j : Int32} {n : Nat} (h : vp_in j n) : gx j < n := Nat.not_le.mp fun q => h (Or.inr q)
theorem rfAhead {f g : Nat} {j : Int32} (h : vp_in j 14) : gRf f g 21 (gx j) = 22 + gx j := g14 (fun j => gRf f g 21 j = 22 + j) rfl rfl rfl rfl rfl rfl rfl rfl rfl rfl rfl rfl rfl rfl _ (gx_lt h)
theorem moAhead {j : Int32} (h : vp_in j 14) : gmo (22 + gx j) = true := g14 (fun j => gmo (22 + j) = true) rfl rfl rfl rfl rfl rfl rfl rfl rfl rfl rfl rfl rfl rfl _ (gx_lt h)
theorem g2 (P : Nat → Prop) (h0 : P 0) (h1 : P 1) (j : Nat) (hj : j < 2) : P j := by
  rcases (by omega : j = 0 ∨ j = 1) with rfl | rfl <;> assumption
theorem rfKept {f g : Nat} {j : Int32} (h : vp_in j 2) : gRf f g 36 (gx j) = 37 + gx j := g2 (fun j => gRf f g 36 j = 37 + j) rfl rfl _ (gx_lt h)
theorem moKept {j : Int32} (h : vp_in j 2) : gmo (37 + gx j) = true := g2 (fun j => gmo (37 + j) = true) rfl rfl _ (gx_lt h)
theorem rfTried {f g : Nat} {j : Int32} (h : vp_in j 2) : gRf f g 45 (gx j) = 48 + gx j := g2 (fun j => gRf f g 45 j = 48 + j) rfl rfl _ (gx_lt h)
theorem moTried {j : Int32} (h : vp_in j 2) : gmo (48 + gx j) = true := g2 (fun j => gmo (48 + j) = true) rfl rfl _ (gx_lt h)
theorem ne1Fen {a j : Nat} (h : gfe a = true) : a + (j + 1) ≠ 1 := by rcases gfe_or h with rfl | rfl <;> omega
theorem ne1Song {a : Nat} (h : gso a = true) : a + 1 ≠ 1 := by rcases gso_or h with rfl | rfl | rfl <;> omega
theorem gcst (k : Nat) : Int32.ofInt (k : Int) = nI k := by
  show Int32.ofInt (k : Int) = Int32.ofNat k
  exact Int32.ofInt_eq_ofNat
theorem gI_of_toInt {x y : Int32} {k : Int} (e : x.toInt = k) (hk : y.toInt = k := by decide) : x = y := Int32.toInt_inj.mp (e.trans hk.symm)
theorem gtab_df {df lo hi : Int} {os : Array Int} {x : Int32} {t : Nat} (ht : df.toNat = t) (h : ∀ z : Int, lo ≤ z → z ≤ hi → x.toInt = z → False) : gtab df lo hi os x = t := by
  unfold gtab
  rw [if_pos, ht]
  by_cases h1 : x.toInt < lo
  · exact Or.inl h1
  · by_cases h2 : hi < x.toInt
    · exact Or.inr h2
    · exact (h x.toInt (by omega) (by omega) rfl).elim
theorem shFen5 {n a : Nat} (h : gfe a = true) : (gKn n).2 (a + 1) = 100 + 3 * 5 := by rcases gfe_or h with rfl | rfl <;> rfl
theorem rfFen5 {f g a : Nat} (h : gfe a = true) : gRf f g a 5 = a + 1 := by rcases gfe_or h with rfl | rfl <;> rfl
theorem shFen6 {n a : Nat} (h : gfe a = true) : (gKn n).2 (a + 2) = 100 + 3 * 5 := by rcases gfe_or h with rfl | rfl <;> rfl
theorem rfFen6 {f g a : Nat} (h : gfe a = true) : gRf f g a 6 = a + 2 := by rcases gfe_or h with rfl | rfl <;> rfl
theorem shFen7 {n a : Nat} (h : gfe a = true) : (gKn n).2 (a + 3) = 100 + 3 * 9 := by rcases gfe_or h with rfl | rfl <;> rfl
theorem rfFen7 {f g a : Nat} (h : gfe a = true) : gRf f g a 7 = a + 3 := by rcases gfe_or h with rfl | rfl <;> rfl
theorem shFen8 {n a : Nat} (h : gfe a = true) : (gKn n).2 (a + 4) = 100 + 3 * 5 := by rcases gfe_or h with rfl | rfl <;> rfl
theorem rfFen8 {f g a : Nat} (h : gfe a = true) : gRf f g a 8 = a + 4 := by rcases gfe_or h with rfl | rfl <;> rfl
theorem shFen9 {n a : Nat} (h : gfe a = true) : (gKn n).2 (a + 5) = 100 + 3 * 5 := by rcases gfe_or h with rfl | rfl <;> rfl
theorem rfFen9 {f g a : Nat} (h : gfe a = true) : gRf f g a 9 = a + 5 := by rcases gfe_or h with rfl | rfl <;> rfl
theorem shFen10 {n a : Nat} (h : gfe a = true) : (gKn n).2 (a + 6) = 100 + 3 * 8 := by rcases gfe_or h with rfl | rfl <;> rfl
theorem rfFen10 {f g a : Nat} (h : gfe a = true) : gRf f g a 10 = a + 6 := by rcases gfe_or h with rfl | rfl <;> rfl
end
section
/-! FUNCTIONS (dec.py) -/
def f_X4_noteOf (I : Nat → Nat → Int32) (L : Nat → Nat → Int64) (a0 : Nat) (a1 : Int32) : Int32 := ((gshr (I a0 0) ((nI 4) * a1)) &&& (nI 15))
set_option maxHeartbeats 4000000 in
set_option maxRecDepth 100000 in
theorem s_X4_noteOf {n f g d : Nat} {Q : gP} {I : Nat → Nat → Int32} {L : Nat → Nat → Int64} {a0 : Nat} {a1 : Int32} (h0 : gmo a0 = true) (hQ : Q (some (.int (f_X4_noteOf I L a0 a1))) (gKn n, gRf f g, I, L)) : gR gM (d + 0) 38 [.ref a0, .int a1] (gKn n, gRf f g, I, L) Q := by
  unfold f_X4_noteOf at hQ
  show gW gM (d + 0) 0 0 k_X4_noteOf 0 [.ref a0, .int a1] [] (gKn n, gRf f g, I, L) Q
  refine r_aload rfl rfl ?_
  refine r_getI (c := 4) (k := 0) rfl (shMom h0) ⟨rfl, rfl⟩ ?_
  refine r_const rfl (gcst 4) ?_
  refine r_iload rfl rfl ?_
  refine r_imul rfl ?_
  refine r_ishr rfl ?_
  refine r_const rfl (gcst 15) ?_
  refine r_iand rfl ?_
  refine r_iret rfl ?_
  first | exact hQ | simpa only [if_true] using hQ
def f_X1_isGate (I : Nat → Nat → Int32) (L : Nat → Nat → Int64) (a0 : Nat) (a1 : Int32) : Int32 := (if a1 < 0 then (nI 0) else (if (I a0 0) ≤ a1 then (nI 0) else (nI 1)))
set_option maxHeartbeats 4000000 in
set_option maxRecDepth 100000 in
theorem s_X1_isGate {n f g d : Nat} {Q : gP} {I : Nat → Nat → Int32} {L : Nat → Nat → Int64} {a0 : Nat} {a1 : Int32} (h0 : gfe a0 = true) (hQ : Q (some (.int (f_X1_isGate I L a0 a1))) (gKn n, gRf f g, I, L)) : gR gM (d + 0) 15 [.ref a0, .int a1] (gKn n, gRf f g, I, L) Q := by
  unfold f_X1_isGate at hQ
  show gW gM (d + 0) 0 0 k_X1_isGate 0 [.ref a0, .int a1] [] (gKn n, gRf f g, I, L) Q
  refine r_iload rfl rfl ?_
  have j3 : gW gM (d + 0) 0 0 k_X1_isGate 9 [.ref a0, .int a1] [.int (if a1 < 0 then (nI 0) else (if (I a0 0) ≤ a1 then (nI 0) else (nI 1)))] (gKn n, gRf f g, I, L) Q := by
    refine r_zret rfl (by split <;> (try split) <;> (try split) <;> decide) ?_
    first | exact hQ | simpa only [if_true] using hQ
  refine r_if_lt 8 rfl rfl (fun c1 => ?_) (fun c1 => ?_)
  · try simp only [if_pos c1] at hQ
    refine r_const rfl (gcst 0) ?_
    simpa only [if_pos c1] using j3
  · try simp only [if_neg c1] at hQ
    refine r_iload rfl rfl ?_
    refine r_aload rfl rfl ?_
    refine r_getI (c := 1) (k := 0) rfl (shFen h0) ⟨rfl, rfl⟩ ?_
    refine r_icmp_ge 8 rfl rfl (fun c2 => ?_) (fun c2 => ?_)
    · try simp only [if_pos c2] at hQ
      refine r_const rfl (gcst 0) ?_
      simpa only [if_neg c1, if_pos c2] using j3
    · try simp only [if_neg c2] at hQ
      refine r_const rfl (gcst 1) ?_
      refine r_goto 9 rfl rfl ?_
      simpa only [if_neg c1, if_neg c2] using j3
def f_X8_bit (I : Nat → Nat → Int32) (L : Nat → Nat → Int64) (a0 : Int32) (a1 : Int32) : Int32 := (if ¬ ((gshr a0 a1) &&& (nI 1)) = (nI 1) then (nI 0) else (nI 1))
set_option maxHeartbeats 4000000 in
set_option maxRecDepth 100000 in
theorem s_X8_bit {n f g d : Nat} {Q : gP} {I : Nat → Nat → Int32} {L : Nat → Nat → Int64} {a0 : Int32} {a1 : Int32}  (hQ : Q (some (.int (f_X8_bit I L a0 a1))) (gKn n, gRf f g, I, L)) : gR gM (d + 0) 107 [.int a0, .int a1] (gKn n, gRf f g, I, L) Q := by
  unfold f_X8_bit at hQ
  show gW gM (d + 0) 0 0 k_X8_bit 0 [.int a0, .int a1] [] (gKn n, gRf f g, I, L) Q
  refine r_iload rfl rfl ?_
  refine r_iload rfl rfl ?_
  refine r_ishr rfl ?_
  refine r_const rfl (gcst 1) ?_
  refine r_iand rfl ?_
  refine r_const rfl (gcst 1) ?_
  have j2 : gW gM (d + 0) 0 0 k_X8_bit 10 [.int a0, .int a1] [.int (if ¬ ((gshr a0 a1) &&& (nI 1)) = (nI 1) then (nI 0) else (nI 1))] (gKn n, gRf f g, I, L) Q := by
    refine r_zret rfl (by split <;> (try split) <;> (try split) <;> decide) ?_
    first | exact hQ | simpa only [if_true] using hQ
  refine r_icmp_ne 9 rfl rfl (fun c1 => ?_) (fun c1 => ?_)
  · try simp only [if_pos c1] at hQ
    refine r_const rfl (gcst 0) ?_
    simpa only [if_pos c1] using j2
  · try simp only [if_neg c1] at hQ
    refine r_const rfl (gcst 1) ?_
    refine r_goto 10 rfl rfl ?_
    simpa only [if_neg c1] using j2
def f_X8_in (I : Nat → Nat → Int32) (L : Nat → Nat → Int64) (a0 : Int64) (a1 : Int64) (a2 : Int64) : Int32 := (if (lg_cmp a0 a1) < 0 then (nI 0) else (if 0 < (lg_cmp a0 a2) then (nI 0) else (nI 1)))
set_option maxHeartbeats 4000000 in
set_option maxRecDepth 100000 in
theorem s_X8_in {n f g d : Nat} {Q : gP} {I : Nat → Nat → Int32} {L : Nat → Nat → Int64} {a0 : Int64} {a1 : Int64} {a2 : Int64}  (hQ : Q (some (.int (f_X8_in I L a0 a1 a2))) (gKn n, gRf f g, I, L)) : gR gM (d + 0) 106 [.long a0, .long a1, .long a2] (gKn n, gRf f g, I, L) Q := by
  unfold f_X8_in at hQ
  show gW gM (d + 0) 0 0 k_X8_in 0 [.long a0, .null, .long a1, .null, .long a2, .null] [] (gKn n, gRf f g, I, L) Q
  refine r_lload rfl rfl ?_
  refine r_lload rfl rfl ?_
  refine r_lcmp rfl ?_
  have j3 : gW gM (d + 0) 0 0 k_X8_in 11 [.long a0, .null, .long a1, .null, .long a2, .null] [.int (if (lg_cmp a0 a1) < 0 then (nI 0) else (if 0 < (lg_cmp a0 a2) then (nI 0) else (nI 1)))] (gKn n, gRf f g, I, L) Q := by
    refine r_zret rfl (by split <;> (try split) <;> (try split) <;> decide) ?_
    first | exact hQ | simpa only [if_true] using hQ
  refine r_if_lt 10 rfl rfl (fun c1 => ?_) (fun c1 => ?_)
  · try simp only [if_pos c1] at hQ
    refine r_const rfl (gcst 0) ?_
    simpa only [if_pos c1] using j3
  · try simp only [if_neg c1] at hQ
    refine r_lload rfl rfl ?_
    refine r_lload rfl rfl ?_
    refine r_lcmp rfl ?_
    refine r_if_gt 10 rfl rfl (fun c2 => ?_) (fun c2 => ?_)
    · try simp only [if_pos c2] at hQ
      refine r_const rfl (gcst 0) ?_
      simpa only [if_neg c1, if_pos c2] using j3
    · try simp only [if_neg c2] at hQ
      refine r_const rfl (gcst 1) ?_
      refine r_goto 11 rfl rfl ?_
      simpa only [if_neg c1, if_neg c2] using j3
def f_J9_min_7cf53 (I : Nat → Nat → Int32) (L : Nat → Nat → Int64) (a0 : Int32) (a1 : Int32) : Int32 := (if a1 < a0 then a1 else a0)
set_option maxHeartbeats 4000000 in
set_option maxRecDepth 100000 in
theorem s_J9_min_7cf53 {n f g d : Nat} {Q : gP} {I : Nat → Nat → Int32} {L : Nat → Nat → Int64} {a0 : Int32} {a1 : Int32}  (hQ : Q (some (.int (f_J9_min_7cf53 I L a0 a1))) (gKn n, gRf f g, I, L)) : gR gM (d + 0) 180 [.int a0, .int a1] (gKn n, gRf f g, I, L) Q := by
  unfold f_J9_min_7cf53 at hQ
  show gW gM (d + 0) 0 0 k_J9_min_7cf53 0 [.int a0, .int a1] [] (gKn n, gRf f g, I, L) Q
  refine r_iload rfl rfl ?_
  refine r_iload rfl rfl ?_
  have j2 : gW gM (d + 0) 0 0 k_J9_min_7cf53 6 [.int a0, .int a1] [.int (if a1 < a0 then a1 else a0)] (gKn n, gRf f g, I, L) Q := by
    refine r_iret rfl ?_
    first | exact hQ | simpa only [if_true] using hQ
  refine r_icmp_gt 5 rfl rfl (fun c1 => ?_) (fun c1 => ?_)
  · try simp only [if_pos c1] at hQ
    refine r_iload rfl rfl ?_
    simpa only [if_pos c1] using j2
  · try simp only [if_neg c1] at hQ
    refine r_iload rfl rfl ?_
    refine r_goto 6 rfl rfl ?_
    simpa only [if_neg c1] using j2
def f_X4_passedOf (I : Nat → Nat → Int32) (L : Nat → Nat → Int64) (a0 : Nat) (a1 : Int32) : Int32 := ((gshr (I a0 1) ((nI 2) * a1)) &&& (nI 3))
set_option maxHeartbeats 4000000 in
set_option maxRecDepth 100000 in
theorem s_X4_passedOf {n f g d : Nat} {Q : gP} {I : Nat → Nat → Int32} {L : Nat → Nat → Int64} {a0 : Nat} {a1 : Int32} (h0 : gmo a0 = true) (hQ : Q (some (.int (f_X4_passedOf I L a0 a1))) (gKn n, gRf f g, I, L)) : gR gM (d + 0) 40 [.ref a0, .int a1] (gKn n, gRf f g, I, L) Q := by
  unfold f_X4_passedOf at hQ
  show gW gM (d + 0) 0 0 k_X4_passedOf 0 [.ref a0, .int a1] [] (gKn n, gRf f g, I, L) Q
  refine r_aload rfl rfl ?_
  refine r_getI (c := 4) (k := 1) rfl (shMom h0) ⟨rfl, rfl⟩ ?_
  refine r_const rfl (gcst 2) ?_
  refine r_iload rfl rfl ?_
  refine r_imul rfl ?_
  refine r_ishr rfl ?_
  refine r_const rfl (gcst 3) ?_
  refine r_iand rfl ?_
  refine r_iret rfl ?_
  first | exact hQ | simpa only [if_true] using hQ
def i_X4_pass (I : Nat → Nat → Int32) (L : Nat → Nat → Int64) (a0 : Nat) (a1 : Int32) : Nat → Nat → Int32 := (if (nI 3) ≤ (f_X4_passedOf I L a0 a1) then I else (gu2 I a0 1 ((I a0 1) + (gshl (nI 1) ((nI 2) * a1)))))
set_option maxHeartbeats 4000000 in
set_option maxRecDepth 100000 in
theorem s_X4_pass {n f g d : Nat} {Q : gP} {I : Nat → Nat → Int32} {L : Nat → Nat → Int64} {a0 : Nat} {a1 : Int32} (h0 : gmo a0 = true) (hQ : Q none (gKn n, gRf f g, i_X4_pass I L a0 a1, L)) : gR gM (d + 1) 41 [.ref a0, .int a1] (gKn n, gRf f g, I, L) Q := by
  unfold i_X4_pass at hQ
  show gW gM (d + 1) 0 0 k_X4_pass 0 [.ref a0, .int a1] [] (gKn n, gRf f g, I, L) Q
  refine r_aload rfl rfl ?_
  refine r_iload rfl rfl ?_
  refine r_invv (a := a0) [.int a1] rfl rfl (shMom h0) rfl rfl (by decide) ⟨rfl, rfl⟩ ?_
  refine s_X4_passedOf h0 ?_
  show gW _ _ _ _ _ 3 [.ref a0, .int a1] [.int (f_X4_passedOf I L a0 a1)] (gKn n, gRf f g, I, L) _
  refine r_const rfl (gcst 3) ?_
  have j3 : gW gM (d + 1) 0 0 k_X4_pass 15 [.ref a0, .int a1] [] (gKn n, gRf f g, (if (nI 3) ≤ (f_X4_passedOf I L a0 a1) then I else (gu2 I a0 1 ((I a0 1) + (gshl (nI 1) ((nI 2) * a1))))), L) Q := by
    refine r_vret rfl ?_
    first | exact hQ | simpa only [if_true] using hQ
  refine r_icmp_ge 15 rfl rfl (fun c2 => ?_) (fun c2 => ?_)
  · try simp only [if_pos c2] at hQ
    simpa only [if_pos c2] using j3
  · try simp only [if_neg c2] at hQ
    refine r_aload rfl rfl ?_
    refine r_dup rfl rfl ?_
    refine r_getI (c := 4) (k := 1) rfl (shMom h0) ⟨rfl, rfl⟩ ?_
    refine r_const rfl (gcst 1) ?_
    refine r_const rfl (gcst 2) ?_
    refine r_iload rfl rfl ?_
    refine r_imul rfl ?_
    refine r_ishl rfl ?_
    refine r_iadd rfl ?_
    refine r_putI (c := 4) (k := 1) rfl (shMom h0) ⟨rfl, rfl⟩ ?_
    simpa only [if_neg c2] using j3
end
