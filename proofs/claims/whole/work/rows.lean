section
-- ===== PART A: goes FIRST, ahead of the names: the tables' words, and 'selects' of the private methods out of them =====
/-- a private method of a class that the tables say can be made, by its rows of tables_1 -/
def lw_okq (q : MethodName × Nat) : Prop := (q.1.cls ≠ "java/lang/invoke/MethodHandle" ∧ q.1.cls ≠ "java/lang/invoke/VarHandle") ∧ Cond.instantiable q.1.cls q.2 ∈ tables_1 ∧ Cond.privateMethod q.1 ∈ tables_1 ∧ Cond.instanceMethod q.1 ∈ tables_1
theorem lw_p0 : lw_okq (⟨"KissGates$Text", "skipBlanks", "()V"⟩, 6) := ⟨⟨by decide +kernel, by decide +kernel⟩, List.mem_of_getElem? (i := 23) (by decide +kernel), List.mem_of_getElem? (i := 297) (by decide +kernel), List.mem_of_getElem? (i := 298) (by decide +kernel)⟩
theorem lw_p1 : lw_okq (⟨"KissGates$Text", "readClause", "(LKissGates$Common;)V"⟩, 6) := ⟨⟨by decide +kernel, by decide +kernel⟩, List.mem_of_getElem? (i := 23) (by decide +kernel), List.mem_of_getElem? (i := 301) (by decide +kernel), List.mem_of_getElem? (i := 302) (by decide +kernel)⟩
theorem lw_p2 : lw_okq (⟨"KissGates$Text", "readGate", "(LKissGates$Common;I)V"⟩, 6) := ⟨⟨by decide +kernel, by decide +kernel⟩, List.mem_of_getElem? (i := 23) (by decide +kernel), List.mem_of_getElem? (i := 305) (by decide +kernel), List.mem_of_getElem? (i := 306) (by decide +kernel)⟩
theorem lw_p3 : lw_okq (⟨"KissGates$Text", "blame", "(II)V"⟩, 6) := ⟨⟨by decide +kernel, by decide +kernel⟩, List.mem_of_getElem? (i := 23) (by decide +kernel), List.mem_of_getElem? (i := 309) (by decide +kernel), List.mem_of_getElem? (i := 310) (by decide +kernel)⟩
theorem lw_p4 : lw_okq (⟨"KissGates$Text", "readNumber", "(II)I"⟩, 6) := ⟨⟨by decide +kernel, by decide +kernel⟩, List.mem_of_getElem? (i := 23) (by decide +kernel), List.mem_of_getElem? (i := 313) (by decide +kernel), List.mem_of_getElem? (i := 314) (by decide +kernel)⟩
theorem lw_p5 : lw_okq (⟨"KissGates$Text", "readEnd", "()Z"⟩, 6) := ⟨⟨by decide +kernel, by decide +kernel⟩, List.mem_of_getElem? (i := 23) (by decide +kernel), List.mem_of_getElem? (i := 317) (by decide +kernel), List.mem_of_getElem? (i := 318) (by decide +kernel)⟩
theorem lw_p6 : lw_okq (⟨"KissGates$Text", "readPerson", "(LKissGates$Common;I)V"⟩, 6) := ⟨⟨by decide +kernel, by decide +kernel⟩, List.mem_of_getElem? (i := 23) (by decide +kernel), List.mem_of_getElem? (i := 325) (by decide +kernel), List.mem_of_getElem? (i := 326) (by decide +kernel)⟩
theorem lw_p7 : lw_okq (⟨"KissGates$Text", "readLiking", "(LKissGates$Common;)V"⟩, 6) := ⟨⟨by decide +kernel, by decide +kernel⟩, List.mem_of_getElem? (i := 23) (by decide +kernel), List.mem_of_getElem? (i := 333) (by decide +kernel), List.mem_of_getElem? (i := 334) (by decide +kernel)⟩
theorem lw_p8 : lw_okq (⟨"KissGates", "refusalOfHours", "(I)I"⟩, 14) := ⟨⟨by decide +kernel, by decide +kernel⟩, List.mem_of_getElem? (i := 15) (by decide +kernel), List.mem_of_getElem? (i := 418) (by decide +kernel), List.mem_of_getElem? (i := 419) (by decide +kernel)⟩
theorem lw_p9 : lw_okq (⟨"KissGates$State", "meetAt", "(LKissGates$Common;I)Z"⟩, 9) := ⟨⟨by decide +kernel, by decide +kernel⟩, List.mem_of_getElem? (i := 51) (by decide +kernel), List.mem_of_getElem? (i := 441) (by decide +kernel), List.mem_of_getElem? (i := 442) (by decide +kernel)⟩
theorem lw_p10 : lw_okq (⟨"KissGates$State", "meet", "(II)V"⟩, 9) := ⟨⟨by decide +kernel, by decide +kernel⟩, List.mem_of_getElem? (i := 51) (by decide +kernel), List.mem_of_getElem? (i := 451) (by decide +kernel), List.mem_of_getElem? (i := 452) (by decide +kernel)⟩
theorem lw_p11 : lw_okq (⟨"KissGates", "comeByDraw", "()V"⟩, 14) := ⟨⟨by decide +kernel, by decide +kernel⟩, List.mem_of_getElem? (i := 15) (by decide +kernel), List.mem_of_getElem? (i := 479) (by decide +kernel), List.mem_of_getElem? (i := 480) (by decide +kernel)⟩
theorem lw_p12 : lw_okq (⟨"KissGates", "draw", "(I)I"⟩, 14) := ⟨⟨by decide +kernel, by decide +kernel⟩, List.mem_of_getElem? (i := 15) (by decide +kernel), List.mem_of_getElem? (i := 483) (by decide +kernel), List.mem_of_getElem? (i := 484) (by decide +kernel)⟩
theorem lw_p13 : lw_okq (⟨"KissGates", "openGates", "()I"⟩, 14) := ⟨⟨by decide +kernel, by decide +kernel⟩, List.mem_of_getElem? (i := 15) (by decide +kernel), List.mem_of_getElem? (i := 502) (by decide +kernel), List.mem_of_getElem? (i := 503) (by decide +kernel)⟩
theorem lw_p14 : lw_okq (⟨"KissGates$Pairing", "pairFrom", "(LKissGates$Common;III)V"⟩, 6) := ⟨⟨by decide +kernel, by decide +kernel⟩, List.mem_of_getElem? (i := 141) (by decide +kernel), List.mem_of_getElem? (i := 517) (by decide +kernel), List.mem_of_getElem? (i := 518) (by decide +kernel)⟩
theorem lw_p15 : lw_okq (⟨"KissGates$Pairing", "takeIfBetter", "(II)V"⟩, 6) := ⟨⟨by decide +kernel, by decide +kernel⟩, List.mem_of_getElem? (i := 141) (by decide +kernel), List.mem_of_getElem? (i := 521) (by decide +kernel), List.mem_of_getElem? (i := 522) (by decide +kernel)⟩
def lw_privs_1 : List (MethodName × Nat) := [(⟨"KissGates$Text", "skipBlanks", "()V"⟩, 6), (⟨"KissGates$Text", "readClause", "(LKissGates$Common;)V"⟩, 6), (⟨"KissGates$Text", "readGate", "(LKissGates$Common;I)V"⟩, 6), (⟨"KissGates$Text", "blame", "(II)V"⟩, 6), (⟨"KissGates$Text", "readNumber", "(II)I"⟩, 6), (⟨"KissGates$Text", "readEnd", "()Z"⟩, 6), (⟨"KissGates$Text", "readPerson", "(LKissGates$Common;I)V"⟩, 6), (⟨"KissGates$Text", "readLiking", "(LKissGates$Common;)V"⟩, 6), (⟨"KissGates", "refusalOfHours", "(I)I"⟩, 14), (⟨"KissGates$State", "meetAt", "(LKissGates$Common;I)Z"⟩, 9), (⟨"KissGates$State", "meet", "(II)V"⟩, 9), (⟨"KissGates", "comeByDraw", "()V"⟩, 14), (⟨"KissGates", "draw", "(I)I"⟩, 14), (⟨"KissGates", "openGates", "()I"⟩, 14), (⟨"KissGates$Pairing", "pairFrom", "(LKissGates$Common;III)V"⟩, 6), (⟨"KissGates$Pairing", "takeIfBetter", "(II)V"⟩, 6)]
theorem lw_r1 : ∀ q ∈ lw_privs_1, lw_okq q := List.forall_mem_cons.mpr ⟨lw_p0, List.forall_mem_cons.mpr ⟨lw_p1, List.forall_mem_cons.mpr ⟨lw_p2, List.forall_mem_cons.mpr ⟨lw_p3, List.forall_mem_cons.mpr ⟨lw_p4, List.forall_mem_cons.mpr ⟨lw_p5, List.forall_mem_cons.mpr ⟨lw_p6, List.forall_mem_cons.mpr ⟨lw_p7, List.forall_mem_cons.mpr ⟨lw_p8, List.forall_mem_cons.mpr ⟨lw_p9, List.forall_mem_cons.mpr ⟨lw_p10, List.forall_mem_cons.mpr ⟨lw_p11, List.forall_mem_cons.mpr ⟨lw_p12, List.forall_mem_cons.mpr ⟨lw_p13, List.forall_mem_cons.mpr ⟨lw_p14, List.forall_mem_cons.mpr ⟨lw_p15, fun _ h => absurd h List.not_mem_nil⟩⟩⟩⟩⟩⟩⟩⟩⟩⟩⟩⟩⟩⟩⟩⟩
theorem lw_p16 : lw_okq (⟨"KissGates$Crossing", "isThere", "(III)Z"⟩, 2) := ⟨⟨by decide +kernel, by decide +kernel⟩, List.mem_of_getElem? (i := 169) (by decide +kernel), List.mem_of_getElem? (i := 541) (by decide +kernel), List.mem_of_getElem? (i := 542) (by decide +kernel)⟩
theorem lw_p17 : lw_okq (⟨"KissGates$Crossing", "cross", "(LKissGates$Common;IIII)V"⟩, 2) := ⟨⟨by decide +kernel, by decide +kernel⟩, List.mem_of_getElem? (i := 169) (by decide +kernel), List.mem_of_getElem? (i := 545) (by decide +kernel), List.mem_of_getElem? (i := 546) (by decide +kernel)⟩
theorem lw_p18 : lw_okq (⟨"KissGates$Crossing", "reach", "(II)V"⟩, 2) := ⟨⟨by decide +kernel, by decide +kernel⟩, List.mem_of_getElem? (i := 169) (by decide +kernel), List.mem_of_getElem? (i := 549) (by decide +kernel), List.mem_of_getElem? (i := 550) (by decide +kernel)⟩
theorem lw_p19 : lw_okq (⟨"KissGates", "wouldRather", "(II)Z"⟩, 14) := ⟨⟨by decide +kernel, by decide +kernel⟩, List.mem_of_getElem? (i := 15) (by decide +kernel), List.mem_of_getElem? (i := 558) (by decide +kernel), List.mem_of_getElem? (i := 559) (by decide +kernel)⟩
theorem lw_p20 : lw_okq (⟨"KissGates", "oilings", "(II)I"⟩, 14) := ⟨⟨by decide +kernel, by decide +kernel⟩, List.mem_of_getElem? (i := 15) (by decide +kernel), List.mem_of_getElem? (i := 586) (by decide +kernel), List.mem_of_getElem? (i := 587) (by decide +kernel)⟩
theorem lw_p21 : lw_okq (⟨"KissGates", "greatestPart", "(II)I"⟩, 14) := ⟨⟨by decide +kernel, by decide +kernel⟩, List.mem_of_getElem? (i := 15) (by decide +kernel), List.mem_of_getElem? (i := 624) (by decide +kernel), List.mem_of_getElem? (i := 625) (by decide +kernel)⟩
theorem lw_p22 : lw_okq (⟨"KissGatesModel", "here", "()I"⟩, 40) := ⟨⟨by decide +kernel, by decide +kernel⟩, List.mem_of_getElem? (i := 661) (by decide +kernel), List.mem_of_getElem? (i := 802) (by decide +kernel), List.mem_of_getElem? (i := 803) (by decide +kernel)⟩
theorem lw_p23 : lw_okq (⟨"KissGatesModel", "takeClause", "()I"⟩, 40) := ⟨⟨by decide +kernel, by decide +kernel⟩, List.mem_of_getElem? (i := 661) (by decide +kernel), List.mem_of_getElem? (i := 806) (by decide +kernel), List.mem_of_getElem? (i := 807) (by decide +kernel)⟩
theorem lw_p24 : lw_okq (⟨"KissGatesModel", "fails", "(II)I"⟩, 40) := ⟨⟨by decide +kernel, by decide +kernel⟩, List.mem_of_getElem? (i := 661) (by decide +kernel), List.mem_of_getElem? (i := 810) (by decide +kernel), List.mem_of_getElem? (i := 811) (by decide +kernel)⟩
theorem lw_p25 : lw_okq (⟨"KissGatesModel", "takeGate", "()I"⟩, 40) := ⟨⟨by decide +kernel, by decide +kernel⟩, List.mem_of_getElem? (i := 661) (by decide +kernel), List.mem_of_getElem? (i := 814) (by decide +kernel), List.mem_of_getElem? (i := 815) (by decide +kernel)⟩
theorem lw_p26 : lw_okq (⟨"KissGatesModel", "into", "([IIII)I"⟩, 40) := ⟨⟨by decide +kernel, by decide +kernel⟩, List.mem_of_getElem? (i := 661) (by decide +kernel), List.mem_of_getElem? (i := 818) (by decide +kernel), List.mem_of_getElem? (i := 819) (by decide +kernel)⟩
theorem lw_p27 : lw_okq (⟨"KissGatesModel", "takeNumber", "(II)I"⟩, 40) := ⟨⟨by decide +kernel, by decide +kernel⟩, List.mem_of_getElem? (i := 661) (by decide +kernel), List.mem_of_getElem? (i := 822) (by decide +kernel), List.mem_of_getElem? (i := 823) (by decide +kernel)⟩
theorem lw_p28 : lw_okq (⟨"KissGatesModel", "takePerson", "()I"⟩, 40) := ⟨⟨by decide +kernel, by decide +kernel⟩, List.mem_of_getElem? (i := 661) (by decide +kernel), List.mem_of_getElem? (i := 828) (by decide +kernel), List.mem_of_getElem? (i := 829) (by decide +kernel)⟩
theorem lw_p29 : lw_okq (⟨"KissGatesModel", "takeLikes", "()I"⟩, 40) := ⟨⟨by decide +kernel, by decide +kernel⟩, List.mem_of_getElem? (i := 661) (by decide +kernel), List.mem_of_getElem? (i := 832) (by decide +kernel), List.mem_of_getElem? (i := 833) (by decide +kernel)⟩
theorem lw_p30 : lw_okq (⟨"KissGatesModel", "takeRead", "()V"⟩, 40) := ⟨⟨by decide +kernel, by decide +kernel⟩, List.mem_of_getElem? (i := 661) (by decide +kernel), List.mem_of_getElem? (i := 836) (by decide +kernel), List.mem_of_getElem? (i := 837) (by decide +kernel)⟩
theorem lw_p31 : lw_okq (⟨"KissGatesModel", "allWith", "(I)I"⟩, 40) := ⟨⟨by decide +kernel, by decide +kernel⟩, List.mem_of_getElem? (i := 661) (by decide +kernel), List.mem_of_getElem? (i := 848) (by decide +kernel), List.mem_of_getElem? (i := 849) (by decide +kernel)⟩
def lw_privs_2 : List (MethodName × Nat) := [(⟨"KissGates$Crossing", "isThere", "(III)Z"⟩, 2), (⟨"KissGates$Crossing", "cross", "(LKissGates$Common;IIII)V"⟩, 2), (⟨"KissGates$Crossing", "reach", "(II)V"⟩, 2), (⟨"KissGates", "wouldRather", "(II)Z"⟩, 14), (⟨"KissGates", "oilings", "(II)I"⟩, 14), (⟨"KissGates", "greatestPart", "(II)I"⟩, 14), (⟨"KissGatesModel", "here", "()I"⟩, 40), (⟨"KissGatesModel", "takeClause", "()I"⟩, 40), (⟨"KissGatesModel", "fails", "(II)I"⟩, 40), (⟨"KissGatesModel", "takeGate", "()I"⟩, 40), (⟨"KissGatesModel", "into", "([IIII)I"⟩, 40), (⟨"KissGatesModel", "takeNumber", "(II)I"⟩, 40), (⟨"KissGatesModel", "takePerson", "()I"⟩, 40), (⟨"KissGatesModel", "takeLikes", "()I"⟩, 40), (⟨"KissGatesModel", "takeRead", "()V"⟩, 40), (⟨"KissGatesModel", "allWith", "(I)I"⟩, 40)]
theorem lw_r2 : ∀ q ∈ lw_privs_2, lw_okq q := List.forall_mem_cons.mpr ⟨lw_p16, List.forall_mem_cons.mpr ⟨lw_p17, List.forall_mem_cons.mpr ⟨lw_p18, List.forall_mem_cons.mpr ⟨lw_p19, List.forall_mem_cons.mpr ⟨lw_p20, List.forall_mem_cons.mpr ⟨lw_p21, List.forall_mem_cons.mpr ⟨lw_p22, List.forall_mem_cons.mpr ⟨lw_p23, List.forall_mem_cons.mpr ⟨lw_p24, List.forall_mem_cons.mpr ⟨lw_p25, List.forall_mem_cons.mpr ⟨lw_p26, List.forall_mem_cons.mpr ⟨lw_p27, List.forall_mem_cons.mpr ⟨lw_p28, List.forall_mem_cons.mpr ⟨lw_p29, List.forall_mem_cons.mpr ⟨lw_p30, List.forall_mem_cons.mpr ⟨lw_p31, fun _ h => absurd h List.not_mem_nil⟩⟩⟩⟩⟩⟩⟩⟩⟩⟩⟩⟩⟩⟩⟩⟩
theorem lw_p32 : lw_okq (⟨"KissGatesModel", "waiting", "()I"⟩, 40) := ⟨⟨by decide +kernel, by decide +kernel⟩, List.mem_of_getElem? (i := 661) (by decide +kernel), List.mem_of_getElem? (i := 852) (by decide +kernel), List.mem_of_getElem? (i := 853) (by decide +kernel)⟩
theorem lw_p33 : lw_okq (⟨"KissGatesModel", "rusted", "()I"⟩, 40) := ⟨⟨by decide +kernel, by decide +kernel⟩, List.mem_of_getElem? (i := 661) (by decide +kernel), List.mem_of_getElem? (i := 856) (by decide +kernel), List.mem_of_getElem? (i := 857) (by decide +kernel)⟩
theorem lw_p34 : lw_okq (⟨"KissGatesModel", "isGate", "(I)Z"⟩, 40) := ⟨⟨by decide +kernel, by decide +kernel⟩, List.mem_of_getElem? (i := 661) (by decide +kernel), List.mem_of_getElem? (i := 864) (by decide +kernel), List.mem_of_getElem? (i := 865) (by decide +kernel)⟩
theorem lw_p35 : lw_okq (⟨"KissGatesModel", "waitingAt", "(I)I"⟩, 40) := ⟨⟨by decide +kernel, by decide +kernel⟩, List.mem_of_getElem? (i := 661) (by decide +kernel), List.mem_of_getElem? (i := 869) (by decide +kernel), List.mem_of_getElem? (i := 870) (by decide +kernel)⟩
theorem lw_p36 : lw_okq (⟨"KissGatesModel", "isPerson", "(I)Z"⟩, 40) := ⟨⟨by decide +kernel, by decide +kernel⟩, List.mem_of_getElem? (i := 661) (by decide +kernel), List.mem_of_getElem? (i := 877) (by decide +kernel), List.mem_of_getElem? (i := 878) (by decide +kernel)⟩
theorem lw_p37 : lw_okq (⟨"KissGatesModel", "whomWould", "(I)I"⟩, 40) := ⟨⟨by decide +kernel, by decide +kernel⟩, List.mem_of_getElem? (i := 661) (by decide +kernel), List.mem_of_getElem? (i := 881) (by decide +kernel), List.mem_of_getElem? (i := 882) (by decide +kernel)⟩
theorem lw_p38 : lw_okq (⟨"KissGatesModel", "would", "(II)Z"⟩, 40) := ⟨⟨by decide +kernel, by decide +kernel⟩, List.mem_of_getElem? (i := 661) (by decide +kernel), List.mem_of_getElem? (i := 885) (by decide +kernel), List.mem_of_getElem? (i := 886) (by decide +kernel)⟩
theorem lw_p39 : lw_okq (⟨"KissGatesModel", "like", "(II)Z"⟩, 40) := ⟨⟨by decide +kernel, by decide +kernel⟩, List.mem_of_getElem? (i := 661) (by decide +kernel), List.mem_of_getElem? (i := 889) (by decide +kernel), List.mem_of_getElem? (i := 890) (by decide +kernel)⟩
theorem lw_p40 : lw_okq (⟨"KissGatesModel", "hoursRefused", "(I)I"⟩, 40) := ⟨⟨by decide +kernel, by decide +kernel⟩, List.mem_of_getElem? (i := 661) (by decide +kernel), List.mem_of_getElem? (i := 905) (by decide +kernel), List.mem_of_getElem? (i := 906) (by decide +kernel)⟩
theorem lw_p41 : lw_okq (⟨"KissGatesModel", "remember", "()V"⟩, 40) := ⟨⟨by decide +kernel, by decide +kernel⟩, List.mem_of_getElem? (i := 661) (by decide +kernel), List.mem_of_getElem? (i := 911) (by decide +kernel), List.mem_of_getElem? (i := 912) (by decide +kernel)⟩
theorem lw_p42 : lw_okq (⟨"KissGatesModel", "pass", "()V"⟩, 40) := ⟨⟨by decide +kernel, by decide +kernel⟩, List.mem_of_getElem? (i := 661) (by decide +kernel), List.mem_of_getElem? (i := 915) (by decide +kernel), List.mem_of_getElem? (i := 916) (by decide +kernel)⟩
theorem lw_p43 : lw_okq (⟨"KissGatesModel", "pairAt", "(I)I"⟩, 40) := ⟨⟨by decide +kernel, by decide +kernel⟩, List.mem_of_getElem? (i := 661) (by decide +kernel), List.mem_of_getElem? (i := 919) (by decide +kernel), List.mem_of_getElem? (i := 920) (by decide +kernel)⟩
theorem lw_p44 : lw_okq (⟨"KissGatesModel", "both", "(II)I"⟩, 40) := ⟨⟨by decide +kernel, by decide +kernel⟩, List.mem_of_getElem? (i := 661) (by decide +kernel), List.mem_of_getElem? (i := 923) (by decide +kernel), List.mem_of_getElem? (i := 924) (by decide +kernel)⟩
theorem lw_p45 : lw_okq (⟨"KissGatesModel", "meet", "(II)V"⟩, 40) := ⟨⟨by decide +kernel, by decide +kernel⟩, List.mem_of_getElem? (i := 661) (by decide +kernel), List.mem_of_getElem? (i := 927) (by decide +kernel), List.mem_of_getElem? (i := 928) (by decide +kernel)⟩
theorem lw_p46 : lw_okq (⟨"KissGatesModel", "log", "(I)V"⟩, 40) := ⟨⟨by decide +kernel, by decide +kernel⟩, List.mem_of_getElem? (i := 661) (by decide +kernel), List.mem_of_getElem? (i := 931) (by decide +kernel), List.mem_of_getElem? (i := 932) (by decide +kernel)⟩
theorem lw_p47 : lw_okq (⟨"KissGatesModel", "canCome", "(II)Z"⟩, 40) := ⟨⟨by decide +kernel, by decide +kernel⟩, List.mem_of_getElem? (i := 661) (by decide +kernel), List.mem_of_getElem? (i := 939) (by decide +kernel), List.mem_of_getElem? (i := 940) (by decide +kernel)⟩
def lw_privs_3 : List (MethodName × Nat) := [(⟨"KissGatesModel", "waiting", "()I"⟩, 40), (⟨"KissGatesModel", "rusted", "()I"⟩, 40), (⟨"KissGatesModel", "isGate", "(I)Z"⟩, 40), (⟨"KissGatesModel", "waitingAt", "(I)I"⟩, 40), (⟨"KissGatesModel", "isPerson", "(I)Z"⟩, 40), (⟨"KissGatesModel", "whomWould", "(I)I"⟩, 40), (⟨"KissGatesModel", "would", "(II)Z"⟩, 40), (⟨"KissGatesModel", "like", "(II)Z"⟩, 40), (⟨"KissGatesModel", "hoursRefused", "(I)I"⟩, 40), (⟨"KissGatesModel", "remember", "()V"⟩, 40), (⟨"KissGatesModel", "pass", "()V"⟩, 40), (⟨"KissGatesModel", "pairAt", "(I)I"⟩, 40), (⟨"KissGatesModel", "both", "(II)I"⟩, 40), (⟨"KissGatesModel", "meet", "(II)V"⟩, 40), (⟨"KissGatesModel", "log", "(I)V"⟩, 40), (⟨"KissGatesModel", "canCome", "(II)Z"⟩, 40)]
theorem lw_r3 : ∀ q ∈ lw_privs_3, lw_okq q := List.forall_mem_cons.mpr ⟨lw_p32, List.forall_mem_cons.mpr ⟨lw_p33, List.forall_mem_cons.mpr ⟨lw_p34, List.forall_mem_cons.mpr ⟨lw_p35, List.forall_mem_cons.mpr ⟨lw_p36, List.forall_mem_cons.mpr ⟨lw_p37, List.forall_mem_cons.mpr ⟨lw_p38, List.forall_mem_cons.mpr ⟨lw_p39, List.forall_mem_cons.mpr ⟨lw_p40, List.forall_mem_cons.mpr ⟨lw_p41, List.forall_mem_cons.mpr ⟨lw_p42, List.forall_mem_cons.mpr ⟨lw_p43, List.forall_mem_cons.mpr ⟨lw_p44, List.forall_mem_cons.mpr ⟨lw_p45, List.forall_mem_cons.mpr ⟨lw_p46, List.forall_mem_cons.mpr ⟨lw_p47, fun _ h => absurd h List.not_mem_nil⟩⟩⟩⟩⟩⟩⟩⟩⟩⟩⟩⟩⟩⟩⟩⟩
theorem lw_p48 : lw_okq (⟨"KissGatesModel", "chance", "()V"⟩, 40) := ⟨⟨by decide +kernel, by decide +kernel⟩, List.mem_of_getElem? (i := 661) (by decide +kernel), List.mem_of_getElem? (i := 963) (by decide +kernel), List.mem_of_getElem? (i := 964) (by decide +kernel)⟩
theorem lw_p49 : lw_okq (⟨"KissGatesModel", "draw", "(I)I"⟩, 40) := ⟨⟨by decide +kernel, by decide +kernel⟩, List.mem_of_getElem? (i := 661) (by decide +kernel), List.mem_of_getElem? (i := 967) (by decide +kernel), List.mem_of_getElem? (i := 968) (by decide +kernel)⟩
theorem lw_p50 : lw_okq (⟨"KissGatesModel", "findAtOnce", "()V"⟩, 40) := ⟨⟨by decide +kernel, by decide +kernel⟩, List.mem_of_getElem? (i := 661) (by decide +kernel), List.mem_of_getElem? (i := 983) (by decide +kernel), List.mem_of_getElem? (i := 984) (by decide +kernel)⟩
theorem lw_p51 : lw_okq (⟨"KissGatesModel", "openGates", "()I"⟩, 40) := ⟨⟨by decide +kernel, by decide +kernel⟩, List.mem_of_getElem? (i := 661) (by decide +kernel), List.mem_of_getElem? (i := 987) (by decide +kernel), List.mem_of_getElem? (i := 988) (by decide +kernel)⟩
theorem lw_p52 : lw_okq (⟨"KissGatesModel", "choose", "(I)I"⟩, 40) := ⟨⟨by decide +kernel, by decide +kernel⟩, List.mem_of_getElem? (i := 661) (by decide +kernel), List.mem_of_getElem? (i := 994) (by decide +kernel), List.mem_of_getElem? (i := 995) (by decide +kernel)⟩
theorem lw_p53 : lw_okq (⟨"KissGatesModel", "pairBits", "(I)I"⟩, 40) := ⟨⟨by decide +kernel, by decide +kernel⟩, List.mem_of_getElem? (i := 661) (by decide +kernel), List.mem_of_getElem? (i := 998) (by decide +kernel), List.mem_of_getElem? (i := 999) (by decide +kernel)⟩
theorem lw_p54 : lw_okq (⟨"KissGatesModel", "pairUp", "()Z"⟩, 40) := ⟨⟨by decide +kernel, by decide +kernel⟩, List.mem_of_getElem? (i := 661) (by decide +kernel), List.mem_of_getElem? (i := 1002) (by decide +kernel), List.mem_of_getElem? (i := 1003) (by decide +kernel)⟩
theorem lw_p55 : lw_okq (⟨"KissGatesModel", "isFirst", "()Z"⟩, 40) := ⟨⟨by decide +kernel, by decide +kernel⟩, List.mem_of_getElem? (i := 661) (by decide +kernel), List.mem_of_getElem? (i := 1006) (by decide +kernel), List.mem_of_getElem? (i := 1007) (by decide +kernel)⟩
theorem lw_p56 : lw_okq (⟨"KissGatesModel", "isSet", "(I)Z"⟩, 40) := ⟨⟨by decide +kernel, by decide +kernel⟩, List.mem_of_getElem? (i := 661) (by decide +kernel), List.mem_of_getElem? (i := 1014) (by decide +kernel), List.mem_of_getElem? (i := 1015) (by decide +kernel)⟩
theorem lw_p57 : lw_okq (⟨"KissGatesModel", "findMasks", "()V"⟩, 40) := ⟨⟨by decide +kernel, by decide +kernel⟩, List.mem_of_getElem? (i := 661) (by decide +kernel), List.mem_of_getElem? (i := 1018) (by decide +kernel), List.mem_of_getElem? (i := 1019) (by decide +kernel)⟩
theorem lw_p58 : lw_okq (⟨"KissGatesModel", "isThere", "(II)Z"⟩, 40) := ⟨⟨by decide +kernel, by decide +kernel⟩, List.mem_of_getElem? (i := 661) (by decide +kernel), List.mem_of_getElem? (i := 1022) (by decide +kernel), List.mem_of_getElem? (i := 1023) (by decide +kernel)⟩
theorem lw_p59 : lw_okq (⟨"KissGatesModel", "anHour", "()V"⟩, 40) := ⟨⟨by decide +kernel, by decide +kernel⟩, List.mem_of_getElem? (i := 661) (by decide +kernel), List.mem_of_getElem? (i := 1026) (by decide +kernel), List.mem_of_getElem? (i := 1027) (by decide +kernel)⟩
theorem lw_p60 : lw_okq (⟨"KissGatesModel", "canMeet", "(II)Z"⟩, 40) := ⟨⟨by decide +kernel, by decide +kernel⟩, List.mem_of_getElem? (i := 661) (by decide +kernel), List.mem_of_getElem? (i := 1030) (by decide +kernel), List.mem_of_getElem? (i := 1031) (by decide +kernel)⟩
theorem lw_p61 : lw_okq (⟨"KissGatesModel", "likesNow", "(I)I"⟩, 40) := ⟨⟨by decide +kernel, by decide +kernel⟩, List.mem_of_getElem? (i := 661) (by decide +kernel), List.mem_of_getElem? (i := 1044) (by decide +kernel), List.mem_of_getElem? (i := 1045) (by decide +kernel)⟩
theorem lw_p62 : lw_okq (⟨"KissGatesModel", "mostLiked", "(I)I"⟩, 40) := ⟨⟨by decide +kernel, by decide +kernel⟩, List.mem_of_getElem? (i := 661) (by decide +kernel), List.mem_of_getElem? (i := 1052) (by decide +kernel), List.mem_of_getElem? (i := 1053) (by decide +kernel)⟩
theorem lw_p63 : lw_okq (⟨"KissGatesModel", "madeIll", "(I)I"⟩, 40) := ⟨⟨by decide +kernel, by decide +kernel⟩, List.mem_of_getElem? (i := 661) (by decide +kernel), List.mem_of_getElem? (i := 1060) (by decide +kernel), List.mem_of_getElem? (i := 1061) (by decide +kernel)⟩
def lw_privs_4 : List (MethodName × Nat) := [(⟨"KissGatesModel", "chance", "()V"⟩, 40), (⟨"KissGatesModel", "draw", "(I)I"⟩, 40), (⟨"KissGatesModel", "findAtOnce", "()V"⟩, 40), (⟨"KissGatesModel", "openGates", "()I"⟩, 40), (⟨"KissGatesModel", "choose", "(I)I"⟩, 40), (⟨"KissGatesModel", "pairBits", "(I)I"⟩, 40), (⟨"KissGatesModel", "pairUp", "()Z"⟩, 40), (⟨"KissGatesModel", "isFirst", "()Z"⟩, 40), (⟨"KissGatesModel", "isSet", "(I)Z"⟩, 40), (⟨"KissGatesModel", "findMasks", "()V"⟩, 40), (⟨"KissGatesModel", "isThere", "(II)Z"⟩, 40), (⟨"KissGatesModel", "anHour", "()V"⟩, 40), (⟨"KissGatesModel", "canMeet", "(II)Z"⟩, 40), (⟨"KissGatesModel", "likesNow", "(I)I"⟩, 40), (⟨"KissGatesModel", "mostLiked", "(I)I"⟩, 40), (⟨"KissGatesModel", "madeIll", "(I)I"⟩, 40)]
theorem lw_r4 : ∀ q ∈ lw_privs_4, lw_okq q := List.forall_mem_cons.mpr ⟨lw_p48, List.forall_mem_cons.mpr ⟨lw_p49, List.forall_mem_cons.mpr ⟨lw_p50, List.forall_mem_cons.mpr ⟨lw_p51, List.forall_mem_cons.mpr ⟨lw_p52, List.forall_mem_cons.mpr ⟨lw_p53, List.forall_mem_cons.mpr ⟨lw_p54, List.forall_mem_cons.mpr ⟨lw_p55, List.forall_mem_cons.mpr ⟨lw_p56, List.forall_mem_cons.mpr ⟨lw_p57, List.forall_mem_cons.mpr ⟨lw_p58, List.forall_mem_cons.mpr ⟨lw_p59, List.forall_mem_cons.mpr ⟨lw_p60, List.forall_mem_cons.mpr ⟨lw_p61, List.forall_mem_cons.mpr ⟨lw_p62, List.forall_mem_cons.mpr ⟨lw_p63, fun _ h => absurd h List.not_mem_nil⟩⟩⟩⟩⟩⟩⟩⟩⟩⟩⟩⟩⟩⟩⟩⟩
theorem lw_p64 : lw_okq (⟨"KissGatesModel", "couldBe", "()I"⟩, 40) := ⟨⟨by decide +kernel, by decide +kernel⟩, List.mem_of_getElem? (i := 661) (by decide +kernel), List.mem_of_getElem? (i := 1091) (by decide +kernel), List.mem_of_getElem? (i := 1092) (by decide +kernel)⟩
def lw_privs_5 : List (MethodName × Nat) := [(⟨"KissGatesModel", "couldBe", "()I"⟩, 40)]
theorem lw_r5 : ∀ q ∈ lw_privs_5, lw_okq q := List.forall_mem_cons.mpr ⟨lw_p64, fun _ h => absurd h List.not_mem_nil⟩
def lw_privs : List (MethodName × Nat) := lw_privs_1 ++ (lw_privs_2 ++ (lw_privs_3 ++ (lw_privs_4 ++ (lw_privs_5))))
def lw_tbl : List Cond := k2_sels lw_privs ++ tables_1
theorem lw_privs_ok : ∀ q ∈ lw_privs, lw_okq q := by
  show ∀ q ∈ lw_privs_1 ++ (lw_privs_2 ++ (lw_privs_3 ++ (lw_privs_4 ++ (lw_privs_5)))), lw_okq q
  exact List.forall_mem_append.mpr ⟨lw_r1, List.forall_mem_append.mpr ⟨lw_r2, List.forall_mem_append.mpr ⟨lw_r3, List.forall_mem_append.mpr ⟨lw_r4, lw_r5⟩⟩⟩⟩
end
section
def RX0 : String := "KissGates$Common"
def TX0 : u_T := fun k => match k with
  | 0 => ("KissGates$Common", "gates", "I", false)
  | 1 => ("KissGates$Common", "persons", "I", false)
  | 2 => ("KissGates$Common", "insideAtFirst", "I", false)
  | 3 => ("KissGates$Common", "coldsAtFirst", "I", false)
  | 4 => ("KissGates$Common", "rust", "[I", true)
  | 5 => ("KissGates$Common", "told", "[I", true)
  | _ => ("KissGates$Common", "fond", "[I", true)
def tyX0 : Nat → FieldType := fun k => match k with
  | 0 => .int
  | 1 => .int
  | 2 => .int
  | 3 => .int
  | 4 => .array .int
  | 5 => .array .int
  | _ => .array .int
theorem nmX0 : ∀ a, a < 7 → ∀ b, b < 7 → a ≠ b → (TX0 a).2.1 ≠ (TX0 b).2.1 := by decide +kernel
theorem tyX0_ok : ∀ k, k < 7 → parseFieldDescriptor (TX0 k).2.2.1 = some (tyX0 k) := by decide +kernel
abbrev cX0_init : ByteArray := prog_2_method_1_code
def yX0_init : MethodName := ⟨RX0, "<init>", "()V"⟩
abbrev cX0_empty : ByteArray := prog_2_method_2_code
def yX0_empty : MethodName := ⟨RX0, "empty", "()V"⟩
abbrev cX0_hasGate : ByteArray := prog_2_method_3_code
def yX0_hasGate : MethodName := ⟨RX0, "hasGate", "(I)Z"⟩
abbrev cX0_hasPerson : ByteArray := prog_2_method_4_code
def yX0_hasPerson : MethodName := ⟨RX0, "hasPerson", "(I)Z"⟩
abbrev cX0_hasAll : ByteArray := prog_2_method_5_code
def yX0_hasAll : MethodName := ⟨RX0, "hasAll", "(I)Z"⟩
abbrev cX0_addGate : ByteArray := prog_2_method_6_code
def yX0_addGate : MethodName := ⟨RX0, "addGate", "(I)V"⟩
abbrev cX0_addPerson : ByteArray := prog_2_method_7_code
def yX0_addPerson : MethodName := ⟨RX0, "addPerson", "(II)V"⟩
abbrev cX0_isTold : ByteArray := prog_2_method_8_code
def yX0_isTold : MethodName := ⟨RX0, "isTold", "(II)Z"⟩
abbrev cX0_addLiking : ByteArray := prog_2_method_9_code
def yX0_addLiking : MethodName := ⟨RX0, "addLiking", "(III)V"⟩
abbrev cX0_liking : ByteArray := prog_2_method_10_code
def yX0_liking : MethodName := ⟨RX0, "liking", "(II)I"⟩
abbrev cX0_wouldMeet : ByteArray := prog_2_method_11_code
def yX0_wouldMeet : MethodName := ⟨RX0, "wouldMeet", "(II)I"⟩
abbrev cX0_together : ByteArray := prog_2_method_12_code
def yX0_together : MethodName := ⟨RX0, "together", "(II)I"⟩
abbrev cX0_likesBest : ByteArray := prog_2_method_13_code
def yX0_likesBest : MethodName := ⟨RX0, "likesBest", "(II)Z"⟩
def RX1 : String := "KissGates$Crossing"
def TX1 : u_T := fun k => match k with
  | 0 => ("KissGates$Crossing", "behind", "[I", true)
  | _ => ("KissGates$Crossing", "found", "Z", false)
def tyX1 : Nat → FieldType := fun k => match k with
  | 0 => .array .int
  | _ => .boolean
theorem nmX1 : ∀ a, a < 2 → ∀ b, b < 2 → a ≠ b → (TX1 a).2.1 ≠ (TX1 b).2.1 := by decide +kernel
theorem tyX1_ok : ∀ k, k < 2 → parseFieldDescriptor (TX1 k).2.2.1 = some (tyX1 k) := by decide +kernel
abbrev cX1_init : ByteArray := prog_3_method_1_code
def yX1_init : MethodName := ⟨RX1, "<init>", "()V"⟩
abbrev cX1_fewestHours : ByteArray := prog_3_method_2_code
def yX1_fewestHours : MethodName := ⟨RX1, "fewestHours", "(LKissGates$Common;IIII)I"⟩
abbrev cX1_isThere : ByteArray := prog_3_method_3_code
def yX1_isThere : MethodName := ⟨RX1, "isThere", "(III)Z"⟩
abbrev cX1_cross : ByteArray := prog_3_method_4_code
def yX1_cross : MethodName := ⟨RX1, "cross", "(LKissGates$Common;IIII)V"⟩
abbrev cX1_reach : ByteArray := prog_3_method_5_code
def yX1_reach : MethodName := ⟨RX1, "reach", "(II)V"⟩
def RX2 : String := "KissGates$Notes"
def TX2 : u_T := fun k => match k with
  | 0 => ("KissGates$Notes", "known", "I", false)
  | 1 => ("KissGates$Notes", "ill", "I", false)
  | 2 => ("KissGates$Notes", "sound", "I", false)
  | 3 => ("KissGates$Notes", "written", "I", false)
  | 4 => ("KissGates$Notes", "who", "[I", true)
  | _ => ("KissGates$Notes", "where", "[I", true)
def tyX2 : Nat → FieldType := fun k => match k with
  | 0 => .int
  | 1 => .int
  | 2 => .int
  | 3 => .int
  | 4 => .array .int
  | _ => .array .int
theorem nmX2 : ∀ a, a < 6 → ∀ b, b < 6 → a ≠ b → (TX2 a).2.1 ≠ (TX2 b).2.1 := by decide +kernel
theorem tyX2_ok : ∀ k, k < 6 → parseFieldDescriptor (TX2 k).2.2.1 = some (tyX2 k) := by decide +kernel
abbrev cX2_init : ByteArray := prog_4_method_1_code
def yX2_init : MethodName := ⟨RX2, "<init>", "()V"⟩
abbrev cX2_forget : ByteArray := prog_4_method_2_code
def yX2_forget : MethodName := ⟨RX2, "forget", "()V"⟩
abbrev cX2_learn : ByteArray := prog_4_method_3_code
def yX2_learn : MethodName := ⟨RX2, "learn", "(IZ)I"⟩
abbrev cX2_allows : ByteArray := prog_4_method_4_code
def yX2_allows : MethodName := ⟨RX2, "allows", "(I)Z"⟩
abbrev cX2_enter : ByteArray := prog_4_method_5_code
def yX2_enter : MethodName := ⟨RX2, "enter", "(II)I"⟩
abbrev cX2_firstWrong : ByteArray := prog_4_method_6_code
def yX2_firstWrong : MethodName := ⟨RX2, "firstWrong", "(I)I"⟩
def RX3 : String := "KissGates$Pairing"
def TX3 : u_T := fun k => match k with
  | 0 => ("KissGates$Pairing", "other", "[I", true)
  | 1 => ("KissGates$Pairing", "trial", "[I", true)
  | 2 => ("KissGates$Pairing", "pairs", "I", false)
  | 3 => ("KissGates$Pairing", "liking", "I", false)
  | 4 => ("KissGates$Pairing", "inside", "I", false)
  | _ => ("KissGates$Pairing", "most", "I", false)
def tyX3 : Nat → FieldType := fun k => match k with
  | 0 => .array .int
  | 1 => .array .int
  | 2 => .int
  | 3 => .int
  | 4 => .int
  | _ => .int
theorem nmX3 : ∀ a, a < 6 → ∀ b, b < 6 → a ≠ b → (TX3 a).2.1 ≠ (TX3 b).2.1 := by decide +kernel
theorem tyX3_ok : ∀ k, k < 6 → parseFieldDescriptor (TX3 k).2.2.1 = some (tyX3 k) := by decide +kernel
abbrev cX3_init : ByteArray := prog_5_method_1_code
def yX3_init : MethodName := ⟨RX3, "<init>", "()V"⟩
abbrev cX3_find : ByteArray := prog_5_method_2_code
def yX3_find : MethodName := ⟨RX3, "find", "(LKissGates$Common;II)V"⟩
abbrev cX3_pairFrom : ByteArray := prog_5_method_3_code
def yX3_pairFrom : MethodName := ⟨RX3, "pairFrom", "(LKissGates$Common;III)V"⟩
abbrev cX3_takeIfBetter : ByteArray := prog_5_method_4_code
def yX3_takeIfBetter : MethodName := ⟨RX3, "takeIfBetter", "(II)V"⟩
def RX4 : String := "KissGates$Past"
def TX4 : u_T := fun k => match k with
  | 0 => ("KissGates$Past", "states", "[LKissGates$State;", true)
  | 1 => ("KissGates$Past", "next", "I", false)
  | _ => ("KissGates$Past", "count", "I", false)
def tyX4 : Nat → FieldType := fun k => match k with
  | 0 => .array (.object "KissGates$State")
  | 1 => .int
  | _ => .int
theorem nmX4 : ∀ a, a < 3 → ∀ b, b < 3 → a ≠ b → (TX4 a).2.1 ≠ (TX4 b).2.1 := by decide +kernel
theorem tyX4_ok : ∀ k, k < 3 → parseFieldDescriptor (TX4 k).2.2.1 = some (tyX4 k) := by decide +kernel
abbrev cX4_init : ByteArray := prog_6_method_1_code
def yX4_init : MethodName := ⟨RX4, "<init>", "()V"⟩
abbrev cX4_remember : ByteArray := prog_6_method_2_code
def yX4_remember : MethodName := ⟨RX4, "remember", "(LKissGates$State;)V"⟩
abbrev cX4_restore : ByteArray := prog_6_method_3_code
def yX4_restore : MethodName := ⟨RX4, "restore", "(LKissGates$State;)V"⟩
abbrev cX4_forget : ByteArray := prog_6_method_4_code
def yX4_forget : MethodName := ⟨RX4, "forget", "()V"⟩
def RX5 : String := "KissGates$State"
def TX5 : u_T := fun k => match k with
  | 0 => ("KissGates$State", "hours", "I", false)
  | 1 => ("KissGates$State", "meetings", "I", false)
  | 2 => ("KissGates$State", "holes", "I", false)
  | 3 => ("KissGates$State", "inside", "I", false)
  | 4 => ("KissGates$State", "colds", "I", false)
  | 5 => ("KissGates$State", "logged", "I", false)
  | 6 => ("KissGates$State", "waitsAt", "[I", true)
  | 7 => ("KissGates$State", "unused", "[I", true)
  | _ => ("KissGates$State", "log", "[I", true)
def tyX5 : Nat → FieldType := fun k => match k with
  | 0 => .int
  | 1 => .int
  | 2 => .int
  | 3 => .int
  | 4 => .int
  | 5 => .int
  | 6 => .array .int
  | 7 => .array .int
  | _ => .array .int
theorem nmX5 : ∀ a, a < 9 → ∀ b, b < 9 → a ≠ b → (TX5 a).2.1 ≠ (TX5 b).2.1 := by decide +kernel
theorem tyX5_ok : ∀ k, k < 9 → parseFieldDescriptor (TX5 k).2.2.1 = some (tyX5 k) := by decide +kernel
abbrev cX5_init : ByteArray := prog_7_method_1_code
def yX5_init : MethodName := ⟨RX5, "<init>", "()V"⟩
abbrev cX5_begin : ByteArray := prog_7_method_2_code
def yX5_begin : MethodName := ⟨RX5, "begin", "(LKissGates$Common;)V"⟩
abbrev cX5_copyFrom : ByteArray := prog_7_method_3_code
def yX5_copyFrom : MethodName := ⟨RX5, "copyFrom", "(LKissGates$State;)V"⟩
abbrev cX5_isRusted : ByteArray := prog_7_method_4_code
def yX5_isRusted : MethodName := ⟨RX5, "isRusted", "(LKissGates$Common;I)Z"⟩
abbrev cX5_rusted : ByteArray := prog_7_method_5_code
def yX5_rusted : MethodName := ⟨RX5, "rusted", "(LKissGates$Common;)I"⟩
abbrev cX5_waitingAt : ByteArray := prog_7_method_6_code
def yX5_waitingAt : MethodName := ⟨RX5, "waitingAt", "(LKissGates$Common;I)I"⟩
abbrev cX5_waiting : ByteArray := prog_7_method_7_code
def yX5_waiting : MethodName := ⟨RX5, "waiting", "(LKissGates$Common;)I"⟩
abbrev cX5_passHour : ByteArray := prog_7_method_8_code
def yX5_passHour : MethodName := ⟨RX5, "passHour", "(LKissGates$Common;)V"⟩
abbrev cX5_meetAt : ByteArray := prog_7_method_9_code
def yX5_meetAt : MethodName := ⟨RX5, "meetAt", "(LKissGates$Common;I)Z"⟩
abbrev cX5_meet : ByteArray := prog_7_method_10_code
def yX5_meet : MethodName := ⟨RX5, "meet", "(II)V"⟩
abbrev cX5_madeIllBy : ByteArray := prog_7_method_11_code
def yX5_madeIllBy : MethodName := ⟨RX5, "madeIllBy", "(I)I"⟩
def RX6 : String := "KissGates$Text"
def TX6 : u_T := fun k => match k with
  | 0 => ("KissGates$Text", "letters", "[I", true)
  | 1 => ("KissGates$Text", "length", "I", false)
  | 2 => ("KissGates$Text", "at", "I", false)
  | 3 => ("KissGates$Text", "numberAt", "I", false)
  | 4 => ("KissGates$Text", "fault", "I", false)
  | _ => ("KissGates$Text", "faultAt", "I", false)
def tyX6 : Nat → FieldType := fun k => match k with
  | 0 => .array .int
  | 1 => .int
  | 2 => .int
  | 3 => .int
  | 4 => .int
  | _ => .int
theorem nmX6 : ∀ a, a < 6 → ∀ b, b < 6 → a ≠ b → (TX6 a).2.1 ≠ (TX6 b).2.1 := by decide +kernel
theorem tyX6_ok : ∀ k, k < 6 → parseFieldDescriptor (TX6 k).2.2.1 = some (tyX6 k) := by decide +kernel
abbrev cX6_init : ByteArray := prog_8_method_1_code
def yX6_init : MethodName := ⟨RX6, "<init>", "()V"⟩
abbrev cX6_append : ByteArray := prog_8_method_2_code
def yX6_append : MethodName := ⟨RX6, "append", "(I)I"⟩
abbrev cX6_readInto : ByteArray := prog_8_method_3_code
def yX6_readInto : MethodName := ⟨RX6, "readInto", "(LKissGates$Common;)I"⟩
abbrev cX6_blame : ByteArray := prog_8_method_4_code
def yX6_blame : MethodName := ⟨RX6, "blame", "(II)V"⟩
abbrev cX6_skipBlanks : ByteArray := prog_8_method_5_code
def yX6_skipBlanks : MethodName := ⟨RX6, "skipBlanks", "()V"⟩
abbrev cX6_readClause : ByteArray := prog_8_method_6_code
def yX6_readClause : MethodName := ⟨RX6, "readClause", "(LKissGates$Common;)V"⟩
abbrev cX6_readGate : ByteArray := prog_8_method_7_code
def yX6_readGate : MethodName := ⟨RX6, "readGate", "(LKissGates$Common;I)V"⟩
abbrev cX6_readPerson : ByteArray := prog_8_method_8_code
def yX6_readPerson : MethodName := ⟨RX6, "readPerson", "(LKissGates$Common;I)V"⟩
abbrev cX6_readLiking : ByteArray := prog_8_method_9_code
def yX6_readLiking : MethodName := ⟨RX6, "readLiking", "(LKissGates$Common;)V"⟩
abbrev cX6_readNumber : ByteArray := prog_8_method_10_code
def yX6_readNumber : MethodName := ⟨RX6, "readNumber", "(II)I"⟩
abbrev cX6_readEnd : ByteArray := prog_8_method_11_code
def yX6_readEnd : MethodName := ⟨RX6, "readEnd", "()Z"⟩
def RX7 : String := "KissGates"
def TX7 : u_T := fun k => match k with
  | 0 => ("KissGates", "text", "LKissGates$Text;", true)
  | 1 => ("KissGates", "state", "LKissGates$State;", true)
  | 2 => ("KissGates", "past", "LKissGates$Past;", true)
  | 3 => ("KissGates", "notes", "LKissGates$Notes;", true)
  | 4 => ("KissGates", "pairing", "LKissGates$Pairing;", true)
  | 5 => ("KissGates", "crossing", "LKissGates$Crossing;", true)
  | 6 => ("KissGates", "images", "[LKissGates$State;", true)
  | 7 => ("KissGates", "kept", "[Z", true)
  | 8 => ("KissGates", "keptSeeds", "[I", true)
  | 9 => ("KissGates", "madeIll", "[I", true)
  | 10 => ("KissGates", "land", "LKissGates$Common;", false)
  | 11 => ("KissGates", "spare", "LKissGates$Common;", false)
  | 12 => ("KissGates", "lastFault", "I", false)
  | _ => ("KissGates", "drawn", "I", false)
def tyX7 : Nat → FieldType := fun k => match k with
  | 0 => .object "KissGates$Text"
  | 1 => .object "KissGates$State"
  | 2 => .object "KissGates$Past"
  | 3 => .object "KissGates$Notes"
  | 4 => .object "KissGates$Pairing"
  | 5 => .object "KissGates$Crossing"
  | 6 => .array (.object "KissGates$State")
  | 7 => .array .boolean
  | 8 => .array .int
  | 9 => .array .int
  | 10 => .object "KissGates$Common"
  | 11 => .object "KissGates$Common"
  | 12 => .int
  | _ => .int
theorem nmX7 : ∀ a, a < 14 → ∀ b, b < 14 → a ≠ b → (TX7 a).2.1 ≠ (TX7 b).2.1 := by decide +kernel
theorem tyX7_ok : ∀ k, k < 14 → parseFieldDescriptor (TX7 k).2.2.1 = some (tyX7 k) := by decide +kernel
abbrev cX7_init : ByteArray := prog_1_method_1_code
def yX7_init : MethodName := ⟨RX7, "<init>", "()V"⟩
abbrev cX7_feed : ByteArray := prog_1_method_2_code
def yX7_feed : MethodName := ⟨RX7, "feed", "(I)I"⟩
abbrev cX7_common : ByteArray := prog_1_method_3_code
def yX7_common : MethodName := ⟨RX7, "common", "()I"⟩
abbrev cX7_fault : ByteArray := prog_1_method_4_code
def yX7_fault : MethodName := ⟨RX7, "fault", "()I"⟩
abbrev cX7_told : ByteArray := prog_1_method_5_code
def yX7_told : MethodName := ⟨RX7, "told", "(I)I"⟩
abbrev cX7_gate : ByteArray := prog_1_method_6_code
def yX7_gate : MethodName := ⟨RX7, "gate", "(II)I"⟩
abbrev cX7_person : ByteArray := prog_1_method_7_code
def yX7_person : MethodName := ⟨RX7, "person", "(II)I"⟩
abbrev cX7_likes : ByteArray := prog_1_method_8_code
def yX7_likes : MethodName := ⟨RX7, "likes", "(II)I"⟩
abbrev cX7_logged : ByteArray := prog_1_method_9_code
def yX7_logged : MethodName := ⟨RX7, "logged", "(I)I"⟩
abbrev cX7_hour : ByteArray := prog_1_method_10_code
def yX7_hour : MethodName := ⟨RX7, "hour", "(I)I"⟩
abbrev cX7_come : ByteArray := prog_1_method_11_code
def yX7_come : MethodName := ⟨RX7, "come", "(II)I"⟩
abbrev cX7_goOff : ByteArray := prog_1_method_12_code
def yX7_goOff : MethodName := ⟨RX7, "goOff", "(I)I"⟩
abbrev cX7_hole : ByteArray := prog_1_method_13_code
def yX7_hole : MethodName := ⟨RX7, "hole", "(I)I"⟩
abbrev cX7_oil : ByteArray := prog_1_method_14_code
def yX7_oil : MethodName := ⟨RX7, "oil", "(I)I"⟩
abbrev cX7_well : ByteArray := prog_1_method_15_code
def yX7_well : MethodName := ⟨RX7, "well", "(I)I"⟩
abbrev cX7_drift : ByteArray := prog_1_method_16_code
def yX7_drift : MethodName := ⟨RX7, "drift", "(I)I"⟩
abbrev cX7_undo : ByteArray := prog_1_method_17_code
def yX7_undo : MethodName := ⟨RX7, "undo", "()I"⟩
abbrev cX7_refusalOfHours : ByteArray := prog_1_method_18_code
def yX7_refusalOfHours : MethodName := ⟨RX7, "refusalOfHours", "(I)I"⟩
abbrev cX7_comeByDraw : ByteArray := prog_1_method_19_code
def yX7_comeByDraw : MethodName := ⟨RX7, "comeByDraw", "()V"⟩
abbrev cX7_draw : ByteArray := prog_1_method_20_code
def yX7_draw : MethodName := ⟨RX7, "draw", "(I)I"⟩
abbrev cX7_atOnce : ByteArray := prog_1_method_21_code
def yX7_atOnce : MethodName := ⟨RX7, "atOnce", "(I)I"⟩
abbrev cX7_sides : ByteArray := prog_1_method_22_code
def yX7_sides : MethodName := ⟨RX7, "sides", "(II)I"⟩
abbrev cX7_steady : ByteArray := prog_1_method_23_code
def yX7_steady : MethodName := ⟨RX7, "steady", "()I"⟩
abbrev cX7_loves : ByteArray := prog_1_method_24_code
def yX7_loves : MethodName := ⟨RX7, "loves", "(I)I"⟩
abbrev cX7_first : ByteArray := prog_1_method_25_code
def yX7_first : MethodName := ⟨RX7, "first", "()I"⟩
abbrev cX7_dies : ByteArray := prog_1_method_26_code
def yX7_dies : MethodName := ⟨RX7, "dies", "(I)I"⟩
abbrev cX7_oilFor : ByteArray := prog_1_method_27_code
def yX7_oilFor : MethodName := ⟨RX7, "oilFor", "(I)I"⟩
abbrev cX7_evening : ByteArray := prog_1_method_28_code
def yX7_evening : MethodName := ⟨RX7, "evening", "(I)I"⟩
abbrev cX7_dry : ByteArray := prog_1_method_29_code
def yX7_dry : MethodName := ⟨RX7, "dry", "(II)I"⟩
abbrev cX7_openGates : ByteArray := prog_1_method_30_code
def yX7_openGates : MethodName := ⟨RX7, "openGates", "()I"⟩
abbrev cX7_wouldRather : ByteArray := prog_1_method_31_code
def yX7_wouldRather : MethodName := ⟨RX7, "wouldRather", "(II)Z"⟩
abbrev cX7_oilings : ByteArray := prog_1_method_32_code
def yX7_oilings : MethodName := ⟨RX7, "oilings", "(II)I"⟩
abbrev cX7_ill : ByteArray := prog_1_method_33_code
def yX7_ill : MethodName := ⟨RX7, "ill", "(IZ)I"⟩
abbrev cX7_mayBe : ByteArray := prog_1_method_34_code
def yX7_mayBe : MethodName := ⟨RX7, "mayBe", "()I"⟩
abbrev cX7_ask : ByteArray := prog_1_method_35_code
def yX7_ask : MethodName := ⟨RX7, "ask", "()I"⟩
abbrev cX7_write : ByteArray := prog_1_method_36_code
def yX7_write : MethodName := ⟨RX7, "write", "(II)I"⟩
abbrev cX7_tear : ByteArray := prog_1_method_37_code
def yX7_tear : MethodName := ⟨RX7, "tear", "()I"⟩
abbrev cX7_judge : ByteArray := prog_1_method_38_code
def yX7_judge : MethodName := ⟨RX7, "judge", "()I"⟩
abbrev cX7_greatestPart : ByteArray := prog_1_method_39_code
def yX7_greatestPart : MethodName := ⟨RX7, "greatestPart", "(II)I"⟩
abbrev cX7_seed : ByteArray := prog_1_method_40_code
def yX7_seed : MethodName := ⟨RX7, "seed", "(I)I"⟩
abbrev cX7_keep : ByteArray := prog_1_method_41_code
def yX7_keep : MethodName := ⟨RX7, "keep", "(I)I"⟩
abbrev cX7_goBack : ByteArray := prog_1_method_42_code
def yX7_goBack : MethodName := ⟨RX7, "goBack", "(I)I"⟩
def RX8 : String := "KissGatesModel"
def TX8 : u_T := fun k => match k with
  | 0 => ("KissGatesModel", "gates", "I", false)
  | 1 => ("KissGatesModel", "bears", "[I", true)
  | 2 => ("KissGatesModel", "persons", "I", false)
  | 3 => ("KissGatesModel", "likes", "[I", true)
  | 4 => ("KissGatesModel", "now", "[I", true)
  | 5 => ("KissGatesModel", "seed", "I", false)
  | 6 => ("KissGatesModel", "one", "[I", true)
  | 7 => ("KissGatesModel", "other", "[I", true)
  | 8 => ("KissGatesModel", "text", "[I", true)
  | 9 => ("KissGatesModel", "texted", "I", false)
  | 10 => ("KissGatesModel", "faultPlace", "I", false)
  | 11 => ("KissGatesModel", "at0", "I", false)
  | 12 => ("KissGatesModel", "number", "I", false)
  | 13 => ("KissGatesModel", "numberAt", "I", false)
  | 14 => ("KissGatesModel", "readGates", "I", false)
  | 15 => ("KissGatesModel", "readBears", "[I", true)
  | 16 => ("KissGatesModel", "readPersons", "I", false)
  | 17 => ("KissGatesModel", "readSides", "[I", true)
  | 18 => ("KissGatesModel", "readColds", "[I", true)
  | 19 => ("KissGatesModel", "readLikes", "[I", true)
  | 20 => ("KissGatesModel", "undos", "I", false)
  | 21 => ("KissGatesModel", "past", "[I", true)
  | 22 => ("KissGatesModel", "chosen", "[I", true)
  | 23 => ("KissGatesModel", "with", "[I", true)
  | 24 => ("KissGatesModel", "bestWith", "[I", true)
  | 25 => ("KissGatesModel", "bestMany", "I", false)
  | 26 => ("KissGatesModel", "bestMuch", "I", false)
  | 27 => ("KissGatesModel", "masks", "[I", true)
  | 28 => ("KissGatesModel", "codes", "[I", true)
  | 29 => ("KissGatesModel", "masked", "I", false)
  | 30 => ("KissGatesModel", "can", "[Z", true)
  | 31 => ("KissGatesModel", "next", "[Z", true)
  | 32 => ("KissGatesModel", "known", "I", false)
  | 33 => ("KissGatesModel", "knownWho", "[I", true)
  | 34 => ("KissGatesModel", "knownIs", "[Z", true)
  | 35 => ("KissGatesModel", "booked", "I", false)
  | 36 => ("KissGatesModel", "bookOf", "[I", true)
  | 37 => ("KissGatesModel", "bookIs", "[I", true)
  | 38 => ("KissGatesModel", "images", "[I", true)
  | _ => ("KissGatesModel", "isKept", "[Z", true)
def tyX8 : Nat → FieldType := fun k => match k with
  | 0 => .int
  | 1 => .array .int
  | 2 => .int
  | 3 => .array .int
  | 4 => .array .int
  | 5 => .int
  | 6 => .array .int
  | 7 => .array .int
  | 8 => .array .int
  | 9 => .int
  | 10 => .int
  | 11 => .int
  | 12 => .int
  | 13 => .int
  | 14 => .int
  | 15 => .array .int
  | 16 => .int
  | 17 => .array .int
  | 18 => .array .int
  | 19 => .array .int
  | 20 => .int
  | 21 => .array .int
  | 22 => .array .int
  | 23 => .array .int
  | 24 => .array .int
  | 25 => .int
  | 26 => .int
  | 27 => .array .int
  | 28 => .array .int
  | 29 => .int
  | 30 => .array .boolean
  | 31 => .array .boolean
  | 32 => .int
  | 33 => .array .int
  | 34 => .array .boolean
  | 35 => .int
  | 36 => .array .int
  | 37 => .array .int
  | 38 => .array .int
  | _ => .array .boolean
theorem nmX8 : ∀ a, a < 40 → ∀ b, b < 40 → a ≠ b → (TX8 a).2.1 ≠ (TX8 b).2.1 := by decide +kernel
theorem tyX8_ok : ∀ k, k < 40 → parseFieldDescriptor (TX8 k).2.2.1 = some (tyX8 k) := by decide +kernel
abbrev cX8_init : ByteArray := prog_10_method_1_code
def yX8_init : MethodName := ⟨RX8, "<init>", "()V"⟩
abbrev cX8_in : ByteArray := prog_10_method_3_code
def yX8_in : MethodName := ⟨RX8, "in", "(JJJ)Z"⟩
abbrev cX8_has : ByteArray := prog_10_method_4_code
def yX8_has : MethodName := ⟨RX8, "has", "(II)Z"⟩
abbrev cX8_bits : ByteArray := prog_10_method_5_code
def yX8_bits : MethodName := ⟨RX8, "bits", "(I)I"⟩
abbrev cX8_isGate : ByteArray := prog_10_method_6_code
def yX8_isGate : MethodName := ⟨RX8, "isGate", "(I)Z"⟩
abbrev cX8_isPerson : ByteArray := prog_10_method_7_code
def yX8_isPerson : MethodName := ⟨RX8, "isPerson", "(I)Z"⟩
abbrev cX8_isSet : ByteArray := prog_10_method_8_code
def yX8_isSet : MethodName := ⟨RX8, "isSet", "(I)Z"⟩
abbrev cX8_feed : ByteArray := prog_10_method_9_code
def yX8_feed : MethodName := ⟨RX8, "feed", "(I)I"⟩
abbrev cX8_here : ByteArray := prog_10_method_10_code
def yX8_here : MethodName := ⟨RX8, "here", "()I"⟩
abbrev cX8_fails : ByteArray := prog_10_method_11_code
def yX8_fails : MethodName := ⟨RX8, "fails", "(II)I"⟩
abbrev cX8_takeNumber : ByteArray := prog_10_method_12_code
def yX8_takeNumber : MethodName := ⟨RX8, "takeNumber", "(II)I"⟩
abbrev cX8_into : ByteArray := prog_10_method_13_code
def yX8_into : MethodName := ⟨RX8, "into", "([IIII)I"⟩
abbrev cX8_takeGate : ByteArray := prog_10_method_14_code
def yX8_takeGate : MethodName := ⟨RX8, "takeGate", "()I"⟩
abbrev cX8_takePerson : ByteArray := prog_10_method_15_code
def yX8_takePerson : MethodName := ⟨RX8, "takePerson", "()I"⟩
abbrev cX8_takeLikes : ByteArray := prog_10_method_16_code
def yX8_takeLikes : MethodName := ⟨RX8, "takeLikes", "()I"⟩
abbrev cX8_takeClause : ByteArray := prog_10_method_17_code
def yX8_takeClause : MethodName := ⟨RX8, "takeClause", "()I"⟩
abbrev cX8_takeRead : ByteArray := prog_10_method_18_code
def yX8_takeRead : MethodName := ⟨RX8, "takeRead", "()V"⟩
abbrev cX8_common : ByteArray := prog_10_method_19_code
def yX8_common : MethodName := ⟨RX8, "common", "()I"⟩
abbrev cX8_fault : ByteArray := prog_10_method_20_code
def yX8_fault : MethodName := ⟨RX8, "fault", "()I"⟩
abbrev cX8_like : ByteArray := prog_10_method_21_code
def yX8_like : MethodName := ⟨RX8, "like", "(II)Z"⟩
abbrev cX8_would : ByteArray := prog_10_method_22_code
def yX8_would : MethodName := ⟨RX8, "would", "(II)Z"⟩
abbrev cX8_both : ByteArray := prog_10_method_23_code
def yX8_both : MethodName := ⟨RX8, "both", "(II)I"⟩
abbrev cX8_allWith : ByteArray := prog_10_method_24_code
def yX8_allWith : MethodName := ⟨RX8, "allWith", "(I)I"⟩
abbrev cX8_waitingAt : ByteArray := prog_10_method_25_code
def yX8_waitingAt : MethodName := ⟨RX8, "waitingAt", "(I)I"⟩
abbrev cX8_waiting : ByteArray := prog_10_method_26_code
def yX8_waiting : MethodName := ⟨RX8, "waiting", "()I"⟩
abbrev cX8_rusted : ByteArray := prog_10_method_27_code
def yX8_rusted : MethodName := ⟨RX8, "rusted", "()I"⟩
abbrev cX8_whomWould : ByteArray := prog_10_method_28_code
def yX8_whomWould : MethodName := ⟨RX8, "whomWould", "(I)I"⟩
abbrev cX8_told : ByteArray := prog_10_method_29_code
def yX8_told : MethodName := ⟨RX8, "told", "(I)I"⟩
abbrev cX8_gate : ByteArray := prog_10_method_30_code
def yX8_gate : MethodName := ⟨RX8, "gate", "(II)I"⟩
abbrev cX8_person : ByteArray := prog_10_method_31_code
def yX8_person : MethodName := ⟨RX8, "person", "(II)I"⟩
abbrev cX8_likes : ByteArray := prog_10_method_32_code
def yX8_likes : MethodName := ⟨RX8, "likes", "(II)I"⟩
abbrev cX8_logged : ByteArray := prog_10_method_33_code
def yX8_logged : MethodName := ⟨RX8, "logged", "(I)I"⟩
abbrev cX8_remember : ByteArray := prog_10_method_34_code
def yX8_remember : MethodName := ⟨RX8, "remember", "()V"⟩
abbrev cX8_log : ByteArray := prog_10_method_35_code
def yX8_log : MethodName := ⟨RX8, "log", "(I)V"⟩
abbrev cX8_meet : ByteArray := prog_10_method_36_code
def yX8_meet : MethodName := ⟨RX8, "meet", "(II)V"⟩
abbrev cX8_pairAt : ByteArray := prog_10_method_37_code
def yX8_pairAt : MethodName := ⟨RX8, "pairAt", "(I)I"⟩
abbrev cX8_pass : ByteArray := prog_10_method_38_code
def yX8_pass : MethodName := ⟨RX8, "pass", "()V"⟩
abbrev cX8_hoursRefused : ByteArray := prog_10_method_39_code
def yX8_hoursRefused : MethodName := ⟨RX8, "hoursRefused", "(I)I"⟩
abbrev cX8_hour : ByteArray := prog_10_method_40_code
def yX8_hour : MethodName := ⟨RX8, "hour", "(I)I"⟩
abbrev cX8_canCome : ByteArray := prog_10_method_41_code
def yX8_canCome : MethodName := ⟨RX8, "canCome", "(II)Z"⟩
abbrev cX8_come : ByteArray := prog_10_method_42_code
def yX8_come : MethodName := ⟨RX8, "come", "(II)I"⟩
abbrev cX8_goOff : ByteArray := prog_10_method_43_code
def yX8_goOff : MethodName := ⟨RX8, "goOff", "(I)I"⟩
abbrev cX8_hole : ByteArray := prog_10_method_44_code
def yX8_hole : MethodName := ⟨RX8, "hole", "(I)I"⟩
abbrev cX8_oil : ByteArray := prog_10_method_45_code
def yX8_oil : MethodName := ⟨RX8, "oil", "(I)I"⟩
abbrev cX8_well : ByteArray := prog_10_method_46_code
def yX8_well : MethodName := ⟨RX8, "well", "(I)I"⟩
abbrev cX8_draw : ByteArray := prog_10_method_47_code
def yX8_draw : MethodName := ⟨RX8, "draw", "(I)I"⟩
abbrev cX8_chance : ByteArray := prog_10_method_48_code
def yX8_chance : MethodName := ⟨RX8, "chance", "()V"⟩
abbrev cX8_drift : ByteArray := prog_10_method_49_code
def yX8_drift : MethodName := ⟨RX8, "drift", "(I)I"⟩
abbrev cX8_undo : ByteArray := prog_10_method_50_code
def yX8_undo : MethodName := ⟨RX8, "undo", "()I"⟩
abbrev cX8_openGates : ByteArray := prog_10_method_51_code
def yX8_openGates : MethodName := ⟨RX8, "openGates", "()I"⟩
abbrev cX8_pairBits : ByteArray := prog_10_method_52_code
def yX8_pairBits : MethodName := ⟨RX8, "pairBits", "(I)I"⟩
abbrev cX8_choose : ByteArray := prog_10_method_53_code
def yX8_choose : MethodName := ⟨RX8, "choose", "(I)I"⟩
abbrev cX8_pairUp : ByteArray := prog_10_method_54_code
def yX8_pairUp : MethodName := ⟨RX8, "pairUp", "()Z"⟩
abbrev cX8_isFirst : ByteArray := prog_10_method_55_code
def yX8_isFirst : MethodName := ⟨RX8, "isFirst", "()Z"⟩
abbrev cX8_findAtOnce : ByteArray := prog_10_method_56_code
def yX8_findAtOnce : MethodName := ⟨RX8, "findAtOnce", "()V"⟩
abbrev cX8_atOnce : ByteArray := prog_10_method_57_code
def yX8_atOnce : MethodName := ⟨RX8, "atOnce", "(I)I"⟩
abbrev cX8_findMasks : ByteArray := prog_10_method_58_code
def yX8_findMasks : MethodName := ⟨RX8, "findMasks", "()V"⟩
abbrev cX8_apart : ByteArray := prog_10_method_59_code
def yX8_apart : MethodName := ⟨RX8, "apart", "(III)Z"⟩
abbrev cX8_canMeet : ByteArray := prog_10_method_60_code
def yX8_canMeet : MethodName := ⟨RX8, "canMeet", "(II)Z"⟩
abbrev cX8_isThere : ByteArray := prog_10_method_61_code
def yX8_isThere : MethodName := ⟨RX8, "isThere", "(II)Z"⟩
abbrev cX8_anHour : ByteArray := prog_10_method_62_code
def yX8_anHour : MethodName := ⟨RX8, "anHour", "()V"⟩
abbrev cX8_sides : ByteArray := prog_10_method_63_code
def yX8_sides : MethodName := ⟨RX8, "sides", "(II)I"⟩
abbrev cX8_likesNow : ByteArray := prog_10_method_64_code
def yX8_likesNow : MethodName := ⟨RX8, "likesNow", "(I)I"⟩
abbrev cX8_steady : ByteArray := prog_10_method_65_code
def yX8_steady : MethodName := ⟨RX8, "steady", "()I"⟩
abbrev cX8_mostLiked : ByteArray := prog_10_method_66_code
def yX8_mostLiked : MethodName := ⟨RX8, "mostLiked", "(I)I"⟩
abbrev cX8_loves : ByteArray := prog_10_method_67_code
def yX8_loves : MethodName := ⟨RX8, "loves", "(I)I"⟩
abbrev cX8_madeIll : ByteArray := prog_10_method_68_code
def yX8_madeIll : MethodName := ⟨RX8, "madeIll", "(I)I"⟩
abbrev cX8_first : ByteArray := prog_10_method_69_code
def yX8_first : MethodName := ⟨RX8, "first", "()I"⟩
abbrev cX8_dies : ByteArray := prog_10_method_70_code
def yX8_dies : MethodName := ⟨RX8, "dies", "(I)I"⟩
abbrev cX8_oilFor : ByteArray := prog_10_method_71_code
def yX8_oilFor : MethodName := ⟨RX8, "oilFor", "(I)I"⟩
abbrev cX8_evening : ByteArray := prog_10_method_72_code
def yX8_evening : MethodName := ⟨RX8, "evening", "(I)I"⟩
abbrev cX8_dry : ByteArray := prog_10_method_73_code
def yX8_dry : MethodName := ⟨RX8, "dry", "(II)I"⟩
abbrev cX8_ill : ByteArray := prog_10_method_74_code
def yX8_ill : MethodName := ⟨RX8, "ill", "(IZ)I"⟩
abbrev cX8_couldBe : ByteArray := prog_10_method_75_code
def yX8_couldBe : MethodName := ⟨RX8, "couldBe", "()I"⟩
abbrev cX8_mayBe : ByteArray := prog_10_method_76_code
def yX8_mayBe : MethodName := ⟨RX8, "mayBe", "()I"⟩
abbrev cX8_ask : ByteArray := prog_10_method_77_code
def yX8_ask : MethodName := ⟨RX8, "ask", "()I"⟩
abbrev cX8_write : ByteArray := prog_10_method_78_code
def yX8_write : MethodName := ⟨RX8, "write", "(II)I"⟩
abbrev cX8_tear : ByteArray := prog_10_method_79_code
def yX8_tear : MethodName := ⟨RX8, "tear", "()I"⟩
abbrev cX8_judge : ByteArray := prog_10_method_80_code
def yX8_judge : MethodName := ⟨RX8, "judge", "()I"⟩
abbrev cX8_seed : ByteArray := prog_10_method_81_code
def yX8_seed : MethodName := ⟨RX8, "seed", "(I)I"⟩
abbrev cX8_keep : ByteArray := prog_10_method_82_code
def yX8_keep : MethodName := ⟨RX8, "keep", "(I)I"⟩
abbrev cX8_goBack : ByteArray := prog_10_method_83_code
def yX8_goBack : MethodName := ⟨RX8, "goBack", "(I)I"⟩
def RJ6 : String := "java/lang/Integer"
abbrev cJ6_bitCount_0f7a4 : ByteArray := prog_11_method_49_code
def yJ6_bitCount_0f7a4 : MethodName := ⟨RJ6, "bitCount", "(I)I"⟩
def RJ9 : String := "java/lang/Math"
abbrev cJ9_max_7cf53 : ByteArray := prog_12_method_65_code
def yJ9_max_7cf53 : MethodName := ⟨RJ9, "max", "(II)I"⟩
abbrev cJ9_min_7cf53 : ByteArray := prog_12_method_69_code
def yJ9_min_7cf53 : MethodName := ⟨RJ9, "min", "(II)I"⟩
def RJ10 : String := "java/lang/System"
def RJ7 : String := "java/util/Arrays"
abbrev cJ7_fill_53178 : ByteArray := prog_14_method_103_code
def yJ7_fill_53178 : MethodName := ⟨RJ7, "fill", "([II)V"⟩
def RL : String := "KissGatesLaw"
abbrev cL_law : ByteArray := code
def yL_law : MethodName := ⟨RL, "law", "([I)Z"⟩
abbrev vwCl : List vw_C := [(RX0, TX0, 7), (RX1, TX1, 2), (RX2, TX2, 6), (RX3, TX3, 6), (RX4, TX4, 3), (RX5, TX5, 9), (RX6, TX6, 6), (RX7, TX7, 14), (RX8, TX8, 40)]
end
section
theorem dX0_init_0 : decode cX0_init 0 = .ok (.aload_n 0, 1) := by decide +kernel
theorem dX0_init_1 : decode cX0_init 1 = .ok (.invokespecial 3, 3) := by decide +kernel
theorem dX0_init_4 : decode cX0_init 4 = .ok (.aload_n 0, 1) := by decide +kernel
theorem dX0_init_5 : decode cX0_init 5 = .ok (.iconst 5, 1) := by decide +kernel
theorem dX0_init_6 : decode cX0_init 6 = .ok (.newarray .int, 2) := by decide +kernel
theorem dX0_init_8 : decode cX0_init 8 = .ok (.putfield 9, 3) := by decide +kernel
theorem dX0_init_11 : decode cX0_init 11 = .ok (.aload_n 0, 1) := by decide +kernel
theorem dX0_init_12 : decode cX0_init 12 = .ok (.bipush 49, 2) := by decide +kernel
theorem dX0_init_14 : decode cX0_init 14 = .ok (.newarray .int, 2) := by decide +kernel
theorem dX0_init_16 : decode cX0_init 16 = .ok (.putfield 15, 3) := by decide +kernel
theorem dX0_init_19 : decode cX0_init 19 = .ok (.aload_n 0, 1) := by decide +kernel
theorem dX0_init_20 : decode cX0_init 20 = .ok (.bipush 7, 2) := by decide +kernel
theorem dX0_init_22 : decode cX0_init 22 = .ok (.newarray .int, 2) := by decide +kernel
theorem dX0_init_24 : decode cX0_init 24 = .ok (.putfield 18, 3) := by decide +kernel
theorem dX0_init_27 : decode cX0_init 27 = .ok (.return_, 1) := by decide +kernel
theorem dX0_empty_0 : decode cX0_empty 0 = .ok (.aload_n 0, 1) := by decide +kernel
theorem dX0_empty_1 : decode cX0_empty 1 = .ok (.iconst 0, 1) := by decide +kernel
theorem dX0_empty_2 : decode cX0_empty 2 = .ok (.putfield 21, 3) := by decide +kernel
theorem dX0_empty_5 : decode cX0_empty 5 = .ok (.aload_n 0, 1) := by decide +kernel
theorem dX0_empty_6 : decode cX0_empty 6 = .ok (.iconst 0, 1) := by decide +kernel
theorem dX0_empty_7 : decode cX0_empty 7 = .ok (.putfield 25, 3) := by decide +kernel
theorem dX0_empty_10 : decode cX0_empty 10 = .ok (.aload_n 0, 1) := by decide +kernel
theorem dX0_empty_11 : decode cX0_empty 11 = .ok (.iconst 0, 1) := by decide +kernel
theorem dX0_empty_12 : decode cX0_empty 12 = .ok (.putfield 28, 3) := by decide +kernel
theorem dX0_empty_15 : decode cX0_empty 15 = .ok (.aload_n 0, 1) := by decide +kernel
theorem dX0_empty_16 : decode cX0_empty 16 = .ok (.iconst 0, 1) := by decide +kernel
theorem dX0_empty_17 : decode cX0_empty 17 = .ok (.putfield 31, 3) := by decide +kernel
theorem dX0_empty_20 : decode cX0_empty 20 = .ok (.aload_n 0, 1) := by decide +kernel
theorem dX0_empty_21 : decode cX0_empty 21 = .ok (.getfield 15, 3) := by decide +kernel
theorem dX0_empty_24 : decode cX0_empty 24 = .ok (.iconst (-1), 1) := by decide +kernel
theorem dX0_empty_25 : decode cX0_empty 25 = .ok (.invokestatic 34, 3) := by decide +kernel
theorem dX0_empty_28 : decode cX0_empty 28 = .ok (.aload_n 0, 1) := by decide +kernel
theorem dX0_empty_29 : decode cX0_empty 29 = .ok (.getfield 18, 3) := by decide +kernel
theorem dX0_empty_32 : decode cX0_empty 32 = .ok (.iconst 0, 1) := by decide +kernel
theorem dX0_empty_33 : decode cX0_empty 33 = .ok (.invokestatic 34, 3) := by decide +kernel
theorem dX0_empty_36 : decode cX0_empty 36 = .ok (.return_, 1) := by decide +kernel
theorem dX0_hasGate_0 : decode cX0_hasGate 0 = .ok (.iload_n 1, 1) := by decide +kernel
theorem dX0_hasGate_1 : decode cX0_hasGate 1 = .ok (.ifCond .lt 15, 3) := by decide +kernel
theorem dX0_hasGate_4 : decode cX0_hasGate 4 = .ok (.iload_n 1, 1) := by decide +kernel
theorem dX0_hasGate_5 : decode cX0_hasGate 5 = .ok (.aload_n 0, 1) := by decide +kernel
theorem dX0_hasGate_6 : decode cX0_hasGate 6 = .ok (.getfield 21, 3) := by decide +kernel
theorem dX0_hasGate_9 : decode cX0_hasGate 9 = .ok (.if_icmp .ge 7, 3) := by decide +kernel
theorem dX0_hasGate_12 : decode cX0_hasGate 12 = .ok (.iconst 1, 1) := by decide +kernel
theorem dX0_hasGate_13 : decode cX0_hasGate 13 = .ok (.goto 4, 3) := by decide +kernel
theorem dX0_hasGate_16 : decode cX0_hasGate 16 = .ok (.iconst 0, 1) := by decide +kernel
theorem dX0_hasGate_17 : decode cX0_hasGate 17 = .ok (.ireturn, 1) := by decide +kernel
theorem dX0_hasPerson_0 : decode cX0_hasPerson 0 = .ok (.iload_n 1, 1) := by decide +kernel
theorem dX0_hasPerson_1 : decode cX0_hasPerson 1 = .ok (.ifCond .lt 15, 3) := by decide +kernel
theorem dX0_hasPerson_4 : decode cX0_hasPerson 4 = .ok (.iload_n 1, 1) := by decide +kernel
theorem dX0_hasPerson_5 : decode cX0_hasPerson 5 = .ok (.aload_n 0, 1) := by decide +kernel
theorem dX0_hasPerson_6 : decode cX0_hasPerson 6 = .ok (.getfield 25, 3) := by decide +kernel
theorem dX0_hasPerson_9 : decode cX0_hasPerson 9 = .ok (.if_icmp .ge 7, 3) := by decide +kernel
theorem dX0_hasPerson_12 : decode cX0_hasPerson 12 = .ok (.iconst 1, 1) := by decide +kernel
theorem dX0_hasPerson_13 : decode cX0_hasPerson 13 = .ok (.goto 4, 3) := by decide +kernel
theorem dX0_hasPerson_16 : decode cX0_hasPerson 16 = .ok (.iconst 0, 1) := by decide +kernel
theorem dX0_hasPerson_17 : decode cX0_hasPerson 17 = .ok (.ireturn, 1) := by decide +kernel
theorem dX0_hasAll_0 : decode cX0_hasAll 0 = .ok (.iload_n 1, 1) := by decide +kernel
theorem dX0_hasAll_1 : decode cX0_hasAll 1 = .ok (.aload_n 0, 1) := by decide +kernel
theorem dX0_hasAll_2 : decode cX0_hasAll 2 = .ok (.getfield 25, 3) := by decide +kernel
theorem dX0_hasAll_5 : decode cX0_hasAll 5 = .ok (.iushr, 1) := by decide +kernel
theorem dX0_hasAll_6 : decode cX0_hasAll 6 = .ok (.ifCond .ne 7, 3) := by decide +kernel
theorem dX0_hasAll_9 : decode cX0_hasAll 9 = .ok (.iconst 1, 1) := by decide +kernel
theorem dX0_hasAll_10 : decode cX0_hasAll 10 = .ok (.goto 4, 3) := by decide +kernel
theorem dX0_hasAll_13 : decode cX0_hasAll 13 = .ok (.iconst 0, 1) := by decide +kernel
theorem dX0_hasAll_14 : decode cX0_hasAll 14 = .ok (.ireturn, 1) := by decide +kernel
theorem dX0_addGate_0 : decode cX0_addGate 0 = .ok (.aload_n 0, 1) := by decide +kernel
theorem dX0_addGate_1 : decode cX0_addGate 1 = .ok (.getfield 21, 3) := by decide +kernel
theorem dX0_addGate_4 : decode cX0_addGate 4 = .ok (.iconst 5, 1) := by decide +kernel
theorem dX0_addGate_5 : decode cX0_addGate 5 = .ok (.if_icmp .ge 23, 3) := by decide +kernel
theorem dX0_addGate_8 : decode cX0_addGate 8 = .ok (.aload_n 0, 1) := by decide +kernel
theorem dX0_addGate_9 : decode cX0_addGate 9 = .ok (.getfield 9, 3) := by decide +kernel
theorem dX0_addGate_12 : decode cX0_addGate 12 = .ok (.aload_n 0, 1) := by decide +kernel
theorem dX0_addGate_13 : decode cX0_addGate 13 = .ok (.getfield 21, 3) := by decide +kernel
theorem dX0_addGate_16 : decode cX0_addGate 16 = .ok (.iload_n 1, 1) := by decide +kernel
theorem dX0_addGate_17 : decode cX0_addGate 17 = .ok (.iastore, 1) := by decide +kernel
theorem dX0_addGate_18 : decode cX0_addGate 18 = .ok (.aload_n 0, 1) := by decide +kernel
theorem dX0_addGate_19 : decode cX0_addGate 19 = .ok (.dup, 1) := by decide +kernel
theorem dX0_addGate_20 : decode cX0_addGate 20 = .ok (.getfield 21, 3) := by decide +kernel
theorem dX0_addGate_23 : decode cX0_addGate 23 = .ok (.iconst 1, 1) := by decide +kernel
theorem dX0_addGate_24 : decode cX0_addGate 24 = .ok (.iadd, 1) := by decide +kernel
theorem dX0_addGate_25 : decode cX0_addGate 25 = .ok (.putfield 21, 3) := by decide +kernel
theorem dX0_addGate_28 : decode cX0_addGate 28 = .ok (.return_, 1) := by decide +kernel
theorem dX0_addPerson_0 : decode cX0_addPerson 0 = .ok (.aload_n 0, 1) := by decide +kernel
theorem dX0_addPerson_1 : decode cX0_addPerson 1 = .ok (.getfield 25, 3) := by decide +kernel
theorem dX0_addPerson_4 : decode cX0_addPerson 4 = .ok (.bipush 7, 2) := by decide +kernel
theorem dX0_addPerson_6 : decode cX0_addPerson 6 = .ok (.if_icmp .ge 43, 3) := by decide +kernel
theorem dX0_addPerson_9 : decode cX0_addPerson 9 = .ok (.aload_n 0, 1) := by decide +kernel
theorem dX0_addPerson_10 : decode cX0_addPerson 10 = .ok (.dup, 1) := by decide +kernel
theorem dX0_addPerson_11 : decode cX0_addPerson 11 = .ok (.getfield 28, 3) := by decide +kernel
theorem dX0_addPerson_14 : decode cX0_addPerson 14 = .ok (.iload_n 1, 1) := by decide +kernel
theorem dX0_addPerson_15 : decode cX0_addPerson 15 = .ok (.aload_n 0, 1) := by decide +kernel
theorem dX0_addPerson_16 : decode cX0_addPerson 16 = .ok (.getfield 25, 3) := by decide +kernel
theorem dX0_addPerson_19 : decode cX0_addPerson 19 = .ok (.ishl, 1) := by decide +kernel
theorem dX0_addPerson_20 : decode cX0_addPerson 20 = .ok (.ior, 1) := by decide +kernel
theorem dX0_addPerson_21 : decode cX0_addPerson 21 = .ok (.putfield 28, 3) := by decide +kernel
theorem dX0_addPerson_24 : decode cX0_addPerson 24 = .ok (.aload_n 0, 1) := by decide +kernel
theorem dX0_addPerson_25 : decode cX0_addPerson 25 = .ok (.dup, 1) := by decide +kernel
theorem dX0_addPerson_26 : decode cX0_addPerson 26 = .ok (.getfield 31, 3) := by decide +kernel
theorem dX0_addPerson_29 : decode cX0_addPerson 29 = .ok (.iload_n 2, 1) := by decide +kernel
theorem dX0_addPerson_30 : decode cX0_addPerson 30 = .ok (.aload_n 0, 1) := by decide +kernel
theorem dX0_addPerson_31 : decode cX0_addPerson 31 = .ok (.getfield 25, 3) := by decide +kernel
theorem dX0_addPerson_34 : decode cX0_addPerson 34 = .ok (.ishl, 1) := by decide +kernel
theorem dX0_addPerson_35 : decode cX0_addPerson 35 = .ok (.ior, 1) := by decide +kernel
theorem dX0_addPerson_36 : decode cX0_addPerson 36 = .ok (.putfield 31, 3) := by decide +kernel
theorem dX0_addPerson_39 : decode cX0_addPerson 39 = .ok (.aload_n 0, 1) := by decide +kernel
theorem dX0_addPerson_40 : decode cX0_addPerson 40 = .ok (.dup, 1) := by decide +kernel
theorem dX0_addPerson_41 : decode cX0_addPerson 41 = .ok (.getfield 25, 3) := by decide +kernel
theorem dX0_addPerson_44 : decode cX0_addPerson 44 = .ok (.iconst 1, 1) := by decide +kernel
theorem dX0_addPerson_45 : decode cX0_addPerson 45 = .ok (.iadd, 1) := by decide +kernel
theorem dX0_addPerson_46 : decode cX0_addPerson 46 = .ok (.putfield 25, 3) := by decide +kernel
theorem dX0_addPerson_49 : decode cX0_addPerson 49 = .ok (.return_, 1) := by decide +kernel
theorem dX0_isTold_0 : decode cX0_isTold 0 = .ok (.aload_n 0, 1) := by decide +kernel
theorem dX0_isTold_1 : decode cX0_isTold 1 = .ok (.iload_n 1, 1) := by decide +kernel
theorem dX0_isTold_2 : decode cX0_isTold 2 = .ok (.invokevirtual 40, 3) := by decide +kernel
theorem dX0_isTold_5 : decode cX0_isTold 5 = .ok (.ifCond .eq 30, 3) := by decide +kernel
theorem dX0_isTold_8 : decode cX0_isTold 8 = .ok (.aload_n 0, 1) := by decide +kernel
theorem dX0_isTold_9 : decode cX0_isTold 9 = .ok (.iload_n 2, 1) := by decide +kernel
theorem dX0_isTold_10 : decode cX0_isTold 10 = .ok (.invokevirtual 40, 3) := by decide +kernel
theorem dX0_isTold_13 : decode cX0_isTold 13 = .ok (.ifCond .eq 22, 3) := by decide +kernel
theorem dX0_isTold_16 : decode cX0_isTold 16 = .ok (.aload_n 0, 1) := by decide +kernel
theorem dX0_isTold_17 : decode cX0_isTold 17 = .ok (.getfield 15, 3) := by decide +kernel
theorem dX0_isTold_20 : decode cX0_isTold 20 = .ok (.iload_n 1, 1) := by decide +kernel
theorem dX0_isTold_21 : decode cX0_isTold 21 = .ok (.bipush 7, 2) := by decide +kernel
theorem dX0_isTold_23 : decode cX0_isTold 23 = .ok (.imul, 1) := by decide +kernel
theorem dX0_isTold_24 : decode cX0_isTold 24 = .ok (.iload_n 2, 1) := by decide +kernel
theorem dX0_isTold_25 : decode cX0_isTold 25 = .ok (.iadd, 1) := by decide +kernel
theorem dX0_isTold_26 : decode cX0_isTold 26 = .ok (.iaload, 1) := by decide +kernel
theorem dX0_isTold_27 : decode cX0_isTold 27 = .ok (.iconst (-1), 1) := by decide +kernel
theorem dX0_isTold_28 : decode cX0_isTold 28 = .ok (.if_icmp .eq 7, 3) := by decide +kernel
theorem dX0_isTold_31 : decode cX0_isTold 31 = .ok (.iconst 1, 1) := by decide +kernel
theorem dX0_isTold_32 : decode cX0_isTold 32 = .ok (.goto 4, 3) := by decide +kernel
theorem dX0_isTold_35 : decode cX0_isTold 35 = .ok (.iconst 0, 1) := by decide +kernel
theorem dX0_isTold_36 : decode cX0_isTold 36 = .ok (.ireturn, 1) := by decide +kernel
theorem dX0_addLiking_0 : decode cX0_addLiking 0 = .ok (.aload_n 0, 1) := by decide +kernel
theorem dX0_addLiking_1 : decode cX0_addLiking 1 = .ok (.iload_n 1, 1) := by decide +kernel
theorem dX0_addLiking_2 : decode cX0_addLiking 2 = .ok (.invokevirtual 40, 3) := by decide +kernel
theorem dX0_addLiking_5 : decode cX0_addLiking 5 = .ok (.ifCond .eq 62, 3) := by decide +kernel
theorem dX0_addLiking_8 : decode cX0_addLiking 8 = .ok (.aload_n 0, 1) := by decide +kernel
theorem dX0_addLiking_9 : decode cX0_addLiking 9 = .ok (.iload_n 2, 1) := by decide +kernel
theorem dX0_addLiking_10 : decode cX0_addLiking 10 = .ok (.invokevirtual 40, 3) := by decide +kernel
theorem dX0_addLiking_13 : decode cX0_addLiking 13 = .ok (.ifCond .eq 54, 3) := by decide +kernel
theorem dX0_addLiking_16 : decode cX0_addLiking 16 = .ok (.aload_n 0, 1) := by decide +kernel
theorem dX0_addLiking_17 : decode cX0_addLiking 17 = .ok (.getfield 15, 3) := by decide +kernel
theorem dX0_addLiking_20 : decode cX0_addLiking 20 = .ok (.iload_n 1, 1) := by decide +kernel
theorem dX0_addLiking_21 : decode cX0_addLiking 21 = .ok (.bipush 7, 2) := by decide +kernel
theorem dX0_addLiking_23 : decode cX0_addLiking 23 = .ok (.imul, 1) := by decide +kernel
theorem dX0_addLiking_24 : decode cX0_addLiking 24 = .ok (.iload_n 2, 1) := by decide +kernel
theorem dX0_addLiking_25 : decode cX0_addLiking 25 = .ok (.iadd, 1) := by decide +kernel
theorem dX0_addLiking_26 : decode cX0_addLiking 26 = .ok (.iload_n 3, 1) := by decide +kernel
theorem dX0_addLiking_27 : decode cX0_addLiking 27 = .ok (.iastore, 1) := by decide +kernel
theorem dX0_addLiking_28 : decode cX0_addLiking 28 = .ok (.iload_n 3, 1) := by decide +kernel
theorem dX0_addLiking_29 : decode cX0_addLiking 29 = .ok (.iconst 1, 1) := by decide +kernel
theorem dX0_addLiking_30 : decode cX0_addLiking 30 = .ok (.if_icmp .lt 37, 3) := by decide +kernel
theorem dX0_addLiking_33 : decode cX0_addLiking 33 = .ok (.aload_n 0, 1) := by decide +kernel
theorem dX0_addLiking_34 : decode cX0_addLiking 34 = .ok (.iload_n 2, 1) := by decide +kernel
theorem dX0_addLiking_35 : decode cX0_addLiking 35 = .ok (.iload_n 1, 1) := by decide +kernel
theorem dX0_addLiking_36 : decode cX0_addLiking 36 = .ok (.invokevirtual 44, 3) := by decide +kernel
theorem dX0_addLiking_39 : decode cX0_addLiking 39 = .ok (.iconst 1, 1) := by decide +kernel
theorem dX0_addLiking_40 : decode cX0_addLiking 40 = .ok (.if_icmp .lt 27, 3) := by decide +kernel
theorem dX0_addLiking_43 : decode cX0_addLiking 43 = .ok (.aload_n 0, 1) := by decide +kernel
theorem dX0_addLiking_44 : decode cX0_addLiking 44 = .ok (.getfield 18, 3) := by decide +kernel
theorem dX0_addLiking_47 : decode cX0_addLiking 47 = .ok (.iload_n 1, 1) := by decide +kernel
theorem dX0_addLiking_48 : decode cX0_addLiking 48 = .ok (.dup2, 1) := by decide +kernel
theorem dX0_addLiking_49 : decode cX0_addLiking 49 = .ok (.iaload, 1) := by decide +kernel
theorem dX0_addLiking_50 : decode cX0_addLiking 50 = .ok (.iconst 1, 1) := by decide +kernel
theorem dX0_addLiking_51 : decode cX0_addLiking 51 = .ok (.iload_n 2, 1) := by decide +kernel
theorem dX0_addLiking_52 : decode cX0_addLiking 52 = .ok (.ishl, 1) := by decide +kernel
theorem dX0_addLiking_53 : decode cX0_addLiking 53 = .ok (.ior, 1) := by decide +kernel
theorem dX0_addLiking_54 : decode cX0_addLiking 54 = .ok (.iastore, 1) := by decide +kernel
theorem dX0_addLiking_55 : decode cX0_addLiking 55 = .ok (.aload_n 0, 1) := by decide +kernel
theorem dX0_addLiking_56 : decode cX0_addLiking 56 = .ok (.getfield 18, 3) := by decide +kernel
theorem dX0_addLiking_59 : decode cX0_addLiking 59 = .ok (.iload_n 2, 1) := by decide +kernel
theorem dX0_addLiking_60 : decode cX0_addLiking 60 = .ok (.dup2, 1) := by decide +kernel
theorem dX0_addLiking_61 : decode cX0_addLiking 61 = .ok (.iaload, 1) := by decide +kernel
theorem dX0_addLiking_62 : decode cX0_addLiking 62 = .ok (.iconst 1, 1) := by decide +kernel
theorem dX0_addLiking_63 : decode cX0_addLiking 63 = .ok (.iload_n 1, 1) := by decide +kernel
theorem dX0_addLiking_64 : decode cX0_addLiking 64 = .ok (.ishl, 1) := by decide +kernel
theorem dX0_addLiking_65 : decode cX0_addLiking 65 = .ok (.ior, 1) := by decide +kernel
theorem dX0_addLiking_66 : decode cX0_addLiking 66 = .ok (.iastore, 1) := by decide +kernel
theorem dX0_addLiking_67 : decode cX0_addLiking 67 = .ok (.return_, 1) := by decide +kernel
theorem dX0_liking_0 : decode cX0_liking 0 = .ok (.aload_n 0, 1) := by decide +kernel
theorem dX0_liking_1 : decode cX0_liking 1 = .ok (.iload_n 1, 1) := by decide +kernel
theorem dX0_liking_2 : decode cX0_liking 2 = .ok (.iload_n 2, 1) := by decide +kernel
theorem dX0_liking_3 : decode cX0_liking 3 = .ok (.invokevirtual 48, 3) := by decide +kernel
theorem dX0_liking_6 : decode cX0_liking 6 = .ok (.ifCond .eq 17, 3) := by decide +kernel
theorem dX0_liking_9 : decode cX0_liking 9 = .ok (.aload_n 0, 1) := by decide +kernel
theorem dX0_liking_10 : decode cX0_liking 10 = .ok (.getfield 15, 3) := by decide +kernel
theorem dX0_liking_13 : decode cX0_liking 13 = .ok (.iload_n 1, 1) := by decide +kernel
theorem dX0_liking_14 : decode cX0_liking 14 = .ok (.bipush 7, 2) := by decide +kernel
theorem dX0_liking_16 : decode cX0_liking 16 = .ok (.imul, 1) := by decide +kernel
theorem dX0_liking_17 : decode cX0_liking 17 = .ok (.iload_n 2, 1) := by decide +kernel
theorem dX0_liking_18 : decode cX0_liking 18 = .ok (.iadd, 1) := by decide +kernel
theorem dX0_liking_19 : decode cX0_liking 19 = .ok (.iaload, 1) := by decide +kernel
theorem dX0_liking_20 : decode cX0_liking 20 = .ok (.goto 4, 3) := by decide +kernel
theorem dX0_liking_23 : decode cX0_liking 23 = .ok (.iconst 0, 1) := by decide +kernel
theorem dX0_liking_24 : decode cX0_liking 24 = .ok (.ireturn, 1) := by decide +kernel
theorem dX0_wouldMeet_0 : decode cX0_wouldMeet 0 = .ok (.iload_n 2, 1) := by decide +kernel
theorem dX0_wouldMeet_1 : decode cX0_wouldMeet 1 = .ok (.iload_n 1, 1) := by decide +kernel
theorem dX0_wouldMeet_2 : decode cX0_wouldMeet 2 = .ok (.ishr, 1) := by decide +kernel
theorem dX0_wouldMeet_3 : decode cX0_wouldMeet 3 = .ok (.iconst 1, 1) := by decide +kernel
theorem dX0_wouldMeet_4 : decode cX0_wouldMeet 4 = .ok (.iand, 1) := by decide +kernel
theorem dX0_wouldMeet_5 : decode cX0_wouldMeet 5 = .ok (.iconst 1, 1) := by decide +kernel
theorem dX0_wouldMeet_6 : decode cX0_wouldMeet 6 = .ok (.if_icmp .ne 7, 3) := by decide +kernel
theorem dX0_wouldMeet_9 : decode cX0_wouldMeet 9 = .ok (.iconst 1, 1) := by decide +kernel
theorem dX0_wouldMeet_10 : decode cX0_wouldMeet 10 = .ok (.goto 4, 3) := by decide +kernel
theorem dX0_wouldMeet_13 : decode cX0_wouldMeet 13 = .ok (.iconst 0, 1) := by decide +kernel
theorem dX0_wouldMeet_14 : decode cX0_wouldMeet 14 = .ok (.istore_n 3, 1) := by decide +kernel
theorem dX0_wouldMeet_15 : decode cX0_wouldMeet 15 = .ok (.aload_n 0, 1) := by decide +kernel
theorem dX0_wouldMeet_16 : decode cX0_wouldMeet 16 = .ok (.getfield 18, 3) := by decide +kernel
theorem dX0_wouldMeet_19 : decode cX0_wouldMeet 19 = .ok (.iload_n 1, 1) := by decide +kernel
theorem dX0_wouldMeet_20 : decode cX0_wouldMeet 20 = .ok (.iaload, 1) := by decide +kernel
theorem dX0_wouldMeet_21 : decode cX0_wouldMeet 21 = .ok (.iload_n 3, 1) := by decide +kernel
theorem dX0_wouldMeet_22 : decode cX0_wouldMeet 22 = .ok (.ifCond .eq 9, 3) := by decide +kernel
theorem dX0_wouldMeet_25 : decode cX0_wouldMeet 25 = .ok (.iload_n 2, 1) := by decide +kernel
theorem dX0_wouldMeet_26 : decode cX0_wouldMeet 26 = .ok (.iconst (-1), 1) := by decide +kernel
theorem dX0_wouldMeet_27 : decode cX0_wouldMeet 27 = .ok (.ixor, 1) := by decide +kernel
theorem dX0_wouldMeet_28 : decode cX0_wouldMeet 28 = .ok (.goto 4, 3) := by decide +kernel
theorem dX0_wouldMeet_31 : decode cX0_wouldMeet 31 = .ok (.iload_n 2, 1) := by decide +kernel
theorem dX0_wouldMeet_32 : decode cX0_wouldMeet 32 = .ok (.iand, 1) := by decide +kernel
theorem dX0_wouldMeet_33 : decode cX0_wouldMeet 33 = .ok (.ireturn, 1) := by decide +kernel
theorem dX0_together_0 : decode cX0_together 0 = .ok (.aload_n 0, 1) := by decide +kernel
theorem dX0_together_1 : decode cX0_together 1 = .ok (.iload_n 1, 1) := by decide +kernel
theorem dX0_together_2 : decode cX0_together 2 = .ok (.iload_n 2, 1) := by decide +kernel
theorem dX0_together_3 : decode cX0_together 3 = .ok (.invokevirtual 44, 3) := by decide +kernel
theorem dX0_together_6 : decode cX0_together 6 = .ok (.aload_n 0, 1) := by decide +kernel
theorem dX0_together_7 : decode cX0_together 7 = .ok (.iload_n 2, 1) := by decide +kernel
theorem dX0_together_8 : decode cX0_together 8 = .ok (.iload_n 1, 1) := by decide +kernel
theorem dX0_together_9 : decode cX0_together 9 = .ok (.invokevirtual 44, 3) := by decide +kernel
theorem dX0_together_12 : decode cX0_together 12 = .ok (.iadd, 1) := by decide +kernel
theorem dX0_together_13 : decode cX0_together 13 = .ok (.ireturn, 1) := by decide +kernel
theorem dX0_likesBest_0 : decode cX0_likesBest 0 = .ok (.aload_n 0, 1) := by decide +kernel
theorem dX0_likesBest_1 : decode cX0_likesBest 1 = .ok (.iload_n 1, 1) := by decide +kernel
theorem dX0_likesBest_2 : decode cX0_likesBest 2 = .ok (.iload_n 2, 1) := by decide +kernel
theorem dX0_likesBest_3 : decode cX0_likesBest 3 = .ok (.invokevirtual 44, 3) := by decide +kernel
theorem dX0_likesBest_6 : decode cX0_likesBest 6 = .ok (.istore_n 3, 1) := by decide +kernel
theorem dX0_likesBest_7 : decode cX0_likesBest 7 = .ok (.iload_n 3, 1) := by decide +kernel
theorem dX0_likesBest_8 : decode cX0_likesBest 8 = .ok (.iconst 1, 1) := by decide +kernel
theorem dX0_likesBest_9 : decode cX0_likesBest 9 = .ok (.if_icmp .ge 5, 3) := by decide +kernel
theorem dX0_likesBest_12 : decode cX0_likesBest 12 = .ok (.iconst 0, 1) := by decide +kernel
theorem dX0_likesBest_13 : decode cX0_likesBest 13 = .ok (.ireturn, 1) := by decide +kernel
theorem dX0_likesBest_14 : decode cX0_likesBest 14 = .ok (.iconst 0, 1) := by decide +kernel
theorem dX0_likesBest_15 : decode cX0_likesBest 15 = .ok (.istore 4, 2) := by decide +kernel
theorem dX0_likesBest_17 : decode cX0_likesBest 17 = .ok (.iload 4, 2) := by decide +kernel
theorem dX0_likesBest_19 : decode cX0_likesBest 19 = .ok (.aload_n 0, 1) := by decide +kernel
theorem dX0_likesBest_20 : decode cX0_likesBest 20 = .ok (.getfield 25, 3) := by decide +kernel
theorem dX0_likesBest_23 : decode cX0_likesBest 23 = .ok (.if_icmp .ge 22, 3) := by decide +kernel
theorem dX0_likesBest_26 : decode cX0_likesBest 26 = .ok (.aload_n 0, 1) := by decide +kernel
theorem dX0_likesBest_27 : decode cX0_likesBest 27 = .ok (.iload_n 1, 1) := by decide +kernel
theorem dX0_likesBest_28 : decode cX0_likesBest 28 = .ok (.iload 4, 2) := by decide +kernel
theorem dX0_likesBest_30 : decode cX0_likesBest 30 = .ok (.invokevirtual 44, 3) := by decide +kernel
theorem dX0_likesBest_33 : decode cX0_likesBest 33 = .ok (.iload_n 3, 1) := by decide +kernel
theorem dX0_likesBest_34 : decode cX0_likesBest 34 = .ok (.if_icmp .le 5, 3) := by decide +kernel
theorem dX0_likesBest_37 : decode cX0_likesBest 37 = .ok (.iconst 0, 1) := by decide +kernel
theorem dX0_likesBest_38 : decode cX0_likesBest 38 = .ok (.ireturn, 1) := by decide +kernel
theorem dX0_likesBest_39 : decode cX0_likesBest 39 = .ok (.iinc 4 1, 3) := by decide +kernel
theorem dX0_likesBest_42 : decode cX0_likesBest 42 = .ok (.goto (-25), 3) := by decide +kernel
theorem dX0_likesBest_45 : decode cX0_likesBest 45 = .ok (.iconst 1, 1) := by decide +kernel
theorem dX0_likesBest_46 : decode cX0_likesBest 46 = .ok (.ireturn, 1) := by decide +kernel
theorem dX1_init_0 : decode cX1_init 0 = .ok (.aload_n 0, 1) := by decide +kernel
theorem dX1_init_1 : decode cX1_init 1 = .ok (.invokespecial 3, 3) := by decide +kernel
theorem dX1_init_4 : decode cX1_init 4 = .ok (.aload_n 0, 1) := by decide +kernel
theorem dX1_init_5 : decode cX1_init 5 = .ok (.sipush 128, 3) := by decide +kernel
theorem dX1_init_8 : decode cX1_init 8 = .ok (.newarray .int, 2) := by decide +kernel
theorem dX1_init_10 : decode cX1_init 10 = .ok (.putfield 11, 3) := by decide +kernel
theorem dX1_init_13 : decode cX1_init 13 = .ok (.return_, 1) := by decide +kernel
theorem dX1_fewestHours_0 : decode cX1_fewestHours 0 = .ok (.aload_n 0, 1) := by decide +kernel
theorem dX1_fewestHours_1 : decode cX1_fewestHours 1 = .ok (.getfield 11, 3) := by decide +kernel
theorem dX1_fewestHours_4 : decode cX1_fewestHours 4 = .ok (.iconst (-1), 1) := by decide +kernel
theorem dX1_fewestHours_5 : decode cX1_fewestHours 5 = .ok (.invokestatic 15, 3) := by decide +kernel
theorem dX1_fewestHours_8 : decode cX1_fewestHours 8 = .ok (.iload_n 2, 1) := by decide +kernel
theorem dX1_fewestHours_9 : decode cX1_fewestHours 9 = .ok (.ifCond .lt 10, 3) := by decide +kernel
theorem dX1_fewestHours_12 : decode cX1_fewestHours 12 = .ok (.iload_n 2, 1) := by decide +kernel
theorem dX1_fewestHours_13 : decode cX1_fewestHours 13 = .ok (.sipush 128, 3) := by decide +kernel
theorem dX1_fewestHours_16 : decode cX1_fewestHours 16 = .ok (.if_icmp .lt 5, 3) := by decide +kernel
theorem dX1_fewestHours_19 : decode cX1_fewestHours 19 = .ok (.iconst (-1), 1) := by decide +kernel
theorem dX1_fewestHours_20 : decode cX1_fewestHours 20 = .ok (.ireturn, 1) := by decide +kernel
theorem dX1_fewestHours_21 : decode cX1_fewestHours 21 = .ok (.aload_n 0, 1) := by decide +kernel
theorem dX1_fewestHours_22 : decode cX1_fewestHours 22 = .ok (.getfield 11, 3) := by decide +kernel
theorem dX1_fewestHours_25 : decode cX1_fewestHours 25 = .ok (.iload_n 2, 1) := by decide +kernel
theorem dX1_fewestHours_26 : decode cX1_fewestHours 26 = .ok (.iconst 0, 1) := by decide +kernel
theorem dX1_fewestHours_27 : decode cX1_fewestHours 27 = .ok (.iastore, 1) := by decide +kernel
theorem dX1_fewestHours_28 : decode cX1_fewestHours 28 = .ok (.aload_n 0, 1) := by decide +kernel
theorem dX1_fewestHours_29 : decode cX1_fewestHours 29 = .ok (.iconst 1, 1) := by decide +kernel
theorem dX1_fewestHours_30 : decode cX1_fewestHours 30 = .ok (.putfield 21, 3) := by decide +kernel
theorem dX1_fewestHours_33 : decode cX1_fewestHours 33 = .ok (.iconst 0, 1) := by decide +kernel
theorem dX1_fewestHours_34 : decode cX1_fewestHours 34 = .ok (.istore 6, 2) := by decide +kernel
theorem dX1_fewestHours_36 : decode cX1_fewestHours 36 = .ok (.iload 6, 2) := by decide +kernel
theorem dX1_fewestHours_38 : decode cX1_fewestHours 38 = .ok (.bipush 40, 2) := by decide +kernel
theorem dX1_fewestHours_40 : decode cX1_fewestHours 40 = .ok (.if_icmp .gt 77, 3) := by decide +kernel
theorem dX1_fewestHours_43 : decode cX1_fewestHours 43 = .ok (.aload_n 0, 1) := by decide +kernel
theorem dX1_fewestHours_44 : decode cX1_fewestHours 44 = .ok (.getfield 21, 3) := by decide +kernel
theorem dX1_fewestHours_47 : decode cX1_fewestHours 47 = .ok (.ifCond .eq 70, 3) := by decide +kernel
theorem dX1_fewestHours_50 : decode cX1_fewestHours 50 = .ok (.aload_n 0, 1) := by decide +kernel
theorem dX1_fewestHours_51 : decode cX1_fewestHours 51 = .ok (.iload 6, 2) := by decide +kernel
theorem dX1_fewestHours_53 : decode cX1_fewestHours 53 = .ok (.iload 4, 2) := by decide +kernel
theorem dX1_fewestHours_55 : decode cX1_fewestHours 55 = .ok (.iload 5, 2) := by decide +kernel
theorem dX1_fewestHours_57 : decode cX1_fewestHours 57 = .ok (.invokevirtual 25, 3) := by decide +kernel
theorem dX1_fewestHours_60 : decode cX1_fewestHours 60 = .ok (.ifCond .eq 6, 3) := by decide +kernel
theorem dX1_fewestHours_63 : decode cX1_fewestHours 63 = .ok (.iload 6, 2) := by decide +kernel
theorem dX1_fewestHours_65 : decode cX1_fewestHours 65 = .ok (.ireturn, 1) := by decide +kernel
theorem dX1_fewestHours_66 : decode cX1_fewestHours 66 = .ok (.aload_n 0, 1) := by decide +kernel
theorem dX1_fewestHours_67 : decode cX1_fewestHours 67 = .ok (.iconst 0, 1) := by decide +kernel
theorem dX1_fewestHours_68 : decode cX1_fewestHours 68 = .ok (.putfield 21, 3) := by decide +kernel
theorem dX1_fewestHours_71 : decode cX1_fewestHours 71 = .ok (.iconst 0, 1) := by decide +kernel
theorem dX1_fewestHours_72 : decode cX1_fewestHours 72 = .ok (.istore 7, 2) := by decide +kernel
theorem dX1_fewestHours_74 : decode cX1_fewestHours 74 = .ok (.iload 7, 2) := by decide +kernel
theorem dX1_fewestHours_76 : decode cX1_fewestHours 76 = .ok (.sipush 128, 3) := by decide +kernel
theorem dX1_fewestHours_79 : decode cX1_fewestHours 79 = .ok (.if_icmp .ge 32, 3) := by decide +kernel
theorem dX1_fewestHours_82 : decode cX1_fewestHours 82 = .ok (.aload_n 0, 1) := by decide +kernel
theorem dX1_fewestHours_83 : decode cX1_fewestHours 83 = .ok (.getfield 11, 3) := by decide +kernel
theorem dX1_fewestHours_86 : decode cX1_fewestHours 86 = .ok (.iload 7, 2) := by decide +kernel
theorem dX1_fewestHours_88 : decode cX1_fewestHours 88 = .ok (.iaload, 1) := by decide +kernel
theorem dX1_fewestHours_89 : decode cX1_fewestHours 89 = .ok (.iload 6, 2) := by decide +kernel
theorem dX1_fewestHours_91 : decode cX1_fewestHours 91 = .ok (.if_icmp .ne 14, 3) := by decide +kernel
theorem dX1_fewestHours_94 : decode cX1_fewestHours 94 = .ok (.aload_n 0, 1) := by decide +kernel
theorem dX1_fewestHours_95 : decode cX1_fewestHours 95 = .ok (.aload_n 1, 1) := by decide +kernel
theorem dX1_fewestHours_96 : decode cX1_fewestHours 96 = .ok (.iload 7, 2) := by decide +kernel
theorem dX1_fewestHours_98 : decode cX1_fewestHours 98 = .ok (.iload 7, 2) := by decide +kernel
theorem dX1_fewestHours_100 : decode cX1_fewestHours 100 = .ok (.iconst 0, 1) := by decide +kernel
theorem dX1_fewestHours_101 : decode cX1_fewestHours 101 = .ok (.iload_n 3, 1) := by decide +kernel
theorem dX1_fewestHours_102 : decode cX1_fewestHours 102 = .ok (.invokevirtual 29, 3) := by decide +kernel
theorem dX1_fewestHours_105 : decode cX1_fewestHours 105 = .ok (.iinc 7 1, 3) := by decide +kernel
theorem dX1_fewestHours_108 : decode cX1_fewestHours 108 = .ok (.goto (-34), 3) := by decide +kernel
theorem dX1_fewestHours_111 : decode cX1_fewestHours 111 = .ok (.iinc 6 1, 3) := by decide +kernel
theorem dX1_fewestHours_114 : decode cX1_fewestHours 114 = .ok (.goto (-78), 3) := by decide +kernel
theorem dX1_fewestHours_117 : decode cX1_fewestHours 117 = .ok (.iconst (-1), 1) := by decide +kernel
theorem dX1_fewestHours_118 : decode cX1_fewestHours 118 = .ok (.ireturn, 1) := by decide +kernel
theorem dX1_isThere_0 : decode cX1_isThere 0 = .ok (.iconst 0, 1) := by decide +kernel
theorem dX1_isThere_1 : decode cX1_isThere 1 = .ok (.istore 4, 2) := by decide +kernel
theorem dX1_isThere_3 : decode cX1_isThere 3 = .ok (.iload 4, 2) := by decide +kernel
theorem dX1_isThere_5 : decode cX1_isThere 5 = .ok (.sipush 128, 3) := by decide +kernel
theorem dX1_isThere_8 : decode cX1_isThere 8 = .ok (.if_icmp .ge 31, 3) := by decide +kernel
theorem dX1_isThere_11 : decode cX1_isThere 11 = .ok (.aload_n 0, 1) := by decide +kernel
theorem dX1_isThere_12 : decode cX1_isThere 12 = .ok (.getfield 11, 3) := by decide +kernel
theorem dX1_isThere_15 : decode cX1_isThere 15 = .ok (.iload 4, 2) := by decide +kernel
theorem dX1_isThere_17 : decode cX1_isThere 17 = .ok (.iaload, 1) := by decide +kernel
theorem dX1_isThere_18 : decode cX1_isThere 18 = .ok (.iload_n 1, 1) := by decide +kernel
theorem dX1_isThere_19 : decode cX1_isThere 19 = .ok (.if_icmp .ne 14, 3) := by decide +kernel
theorem dX1_isThere_22 : decode cX1_isThere 22 = .ok (.iload 4, 2) := by decide +kernel
theorem dX1_isThere_24 : decode cX1_isThere 24 = .ok (.iload_n 3, 1) := by decide +kernel
theorem dX1_isThere_25 : decode cX1_isThere 25 = .ok (.ixor, 1) := by decide +kernel
theorem dX1_isThere_26 : decode cX1_isThere 26 = .ok (.iload_n 2, 1) := by decide +kernel
theorem dX1_isThere_27 : decode cX1_isThere 27 = .ok (.iand, 1) := by decide +kernel
theorem dX1_isThere_28 : decode cX1_isThere 28 = .ok (.ifCond .ne 5, 3) := by decide +kernel
theorem dX1_isThere_31 : decode cX1_isThere 31 = .ok (.iconst 1, 1) := by decide +kernel
theorem dX1_isThere_32 : decode cX1_isThere 32 = .ok (.ireturn, 1) := by decide +kernel
theorem dX1_isThere_33 : decode cX1_isThere 33 = .ok (.iinc 4 1, 3) := by decide +kernel
theorem dX1_isThere_36 : decode cX1_isThere 36 = .ok (.goto (-33), 3) := by decide +kernel
theorem dX1_isThere_39 : decode cX1_isThere 39 = .ok (.iconst 0, 1) := by decide +kernel
theorem dX1_isThere_40 : decode cX1_isThere 40 = .ok (.ireturn, 1) := by decide +kernel
theorem dX1_cross_0 : decode cX1_cross 0 = .ok (.iload 4, 2) := by decide +kernel
theorem dX1_cross_2 : decode cX1_cross 2 = .ok (.aload_n 1, 1) := by decide +kernel
theorem dX1_cross_3 : decode cX1_cross 3 = .ok (.getfield 33, 3) := by decide +kernel
theorem dX1_cross_6 : decode cX1_cross 6 = .ok (.if_icmp .ge 8, 3) := by decide +kernel
theorem dX1_cross_9 : decode cX1_cross 9 = .ok (.iload 5, 2) := by decide +kernel
theorem dX1_cross_11 : decode cX1_cross 11 = .ok (.ifCond .gt 10, 3) := by decide +kernel
theorem dX1_cross_14 : decode cX1_cross 14 = .ok (.aload_n 0, 1) := by decide +kernel
theorem dX1_cross_15 : decode cX1_cross 15 = .ok (.iload_n 2, 1) := by decide +kernel
theorem dX1_cross_16 : decode cX1_cross 16 = .ok (.iload_n 3, 1) := by decide +kernel
theorem dX1_cross_17 : decode cX1_cross 17 = .ok (.invokevirtual 39, 3) := by decide +kernel
theorem dX1_cross_20 : decode cX1_cross 20 = .ok (.return_, 1) := by decide +kernel
theorem dX1_cross_21 : decode cX1_cross 21 = .ok (.iload_n 2, 1) := by decide +kernel
theorem dX1_cross_22 : decode cX1_cross 22 = .ok (.iload_n 3, 1) := by decide +kernel
theorem dX1_cross_23 : decode cX1_cross 23 = .ok (.ixor, 1) := by decide +kernel
theorem dX1_cross_24 : decode cX1_cross 24 = .ok (.istore 6, 2) := by decide +kernel
theorem dX1_cross_26 : decode cX1_cross 26 = .ok (.iload 6, 2) := by decide +kernel
theorem dX1_cross_28 : decode cX1_cross 28 = .ok (.iload 4, 2) := by decide +kernel
theorem dX1_cross_30 : decode cX1_cross 30 = .ok (.ishr, 1) := by decide +kernel
theorem dX1_cross_31 : decode cX1_cross 31 = .ok (.iconst 1, 1) := by decide +kernel
theorem dX1_cross_32 : decode cX1_cross 32 = .ok (.iand, 1) := by decide +kernel
theorem dX1_cross_33 : decode cX1_cross 33 = .ok (.ifCond .ne 18, 3) := by decide +kernel
theorem dX1_cross_36 : decode cX1_cross 36 = .ok (.aload_n 1, 1) := by decide +kernel
theorem dX1_cross_37 : decode cX1_cross 37 = .ok (.iload 4, 2) := by decide +kernel
theorem dX1_cross_39 : decode cX1_cross 39 = .ok (.iload_n 2, 1) := by decide +kernel
theorem dX1_cross_40 : decode cX1_cross 40 = .ok (.invokevirtual 43, 3) := by decide +kernel
theorem dX1_cross_43 : decode cX1_cross 43 = .ok (.iload 6, 2) := by decide +kernel
theorem dX1_cross_45 : decode cX1_cross 45 = .ok (.iconst (-1), 1) := by decide +kernel
theorem dX1_cross_46 : decode cX1_cross 46 = .ok (.ixor, 1) := by decide +kernel
theorem dX1_cross_47 : decode cX1_cross 47 = .ok (.iand, 1) := by decide +kernel
theorem dX1_cross_48 : decode cX1_cross 48 = .ok (.goto 4, 3) := by decide +kernel
theorem dX1_cross_51 : decode cX1_cross 51 = .ok (.iconst 0, 1) := by decide +kernel
theorem dX1_cross_52 : decode cX1_cross 52 = .ok (.istore 7, 2) := by decide +kernel
theorem dX1_cross_54 : decode cX1_cross 54 = .ok (.iload 4, 2) := by decide +kernel
theorem dX1_cross_56 : decode cX1_cross 56 = .ok (.iconst 1, 1) := by decide +kernel
theorem dX1_cross_57 : decode cX1_cross 57 = .ok (.iadd, 1) := by decide +kernel
theorem dX1_cross_58 : decode cX1_cross 58 = .ok (.istore 8, 2) := by decide +kernel
theorem dX1_cross_60 : decode cX1_cross 60 = .ok (.iload 8, 2) := by decide +kernel
theorem dX1_cross_62 : decode cX1_cross 62 = .ok (.aload_n 1, 1) := by decide +kernel
theorem dX1_cross_63 : decode cX1_cross 63 = .ok (.getfield 33, 3) := by decide +kernel
theorem dX1_cross_66 : decode cX1_cross 66 = .ok (.if_icmp .ge 45, 3) := by decide +kernel
theorem dX1_cross_69 : decode cX1_cross 69 = .ok (.iload 7, 2) := by decide +kernel
theorem dX1_cross_71 : decode cX1_cross 71 = .ok (.iload 8, 2) := by decide +kernel
theorem dX1_cross_73 : decode cX1_cross 73 = .ok (.ishr, 1) := by decide +kernel
theorem dX1_cross_74 : decode cX1_cross 74 = .ok (.iconst 1, 1) := by decide +kernel
theorem dX1_cross_75 : decode cX1_cross 75 = .ok (.iand, 1) := by decide +kernel
theorem dX1_cross_76 : decode cX1_cross 76 = .ok (.iconst 1, 1) := by decide +kernel
theorem dX1_cross_77 : decode cX1_cross 77 = .ok (.if_icmp .ne 28, 3) := by decide +kernel
theorem dX1_cross_80 : decode cX1_cross 80 = .ok (.aload_n 0, 1) := by decide +kernel
theorem dX1_cross_81 : decode cX1_cross 81 = .ok (.aload_n 1, 1) := by decide +kernel
theorem dX1_cross_82 : decode cX1_cross 82 = .ok (.iload_n 2, 1) := by decide +kernel
theorem dX1_cross_83 : decode cX1_cross 83 = .ok (.iload_n 3, 1) := by decide +kernel
theorem dX1_cross_84 : decode cX1_cross 84 = .ok (.iconst 1, 1) := by decide +kernel
theorem dX1_cross_85 : decode cX1_cross 85 = .ok (.iload 4, 2) := by decide +kernel
theorem dX1_cross_87 : decode cX1_cross 87 = .ok (.ishl, 1) := by decide +kernel
theorem dX1_cross_88 : decode cX1_cross 88 = .ok (.ixor, 1) := by decide +kernel
theorem dX1_cross_89 : decode cX1_cross 89 = .ok (.iconst 1, 1) := by decide +kernel
theorem dX1_cross_90 : decode cX1_cross 90 = .ok (.iload 8, 2) := by decide +kernel
theorem dX1_cross_92 : decode cX1_cross 92 = .ok (.ishl, 1) := by decide +kernel
theorem dX1_cross_93 : decode cX1_cross 93 = .ok (.ixor, 1) := by decide +kernel
theorem dX1_cross_94 : decode cX1_cross 94 = .ok (.iload 4, 2) := by decide +kernel
theorem dX1_cross_96 : decode cX1_cross 96 = .ok (.iconst 1, 1) := by decide +kernel
theorem dX1_cross_97 : decode cX1_cross 97 = .ok (.iadd, 1) := by decide +kernel
theorem dX1_cross_98 : decode cX1_cross 98 = .ok (.iload 5, 2) := by decide +kernel
theorem dX1_cross_100 : decode cX1_cross 100 = .ok (.iconst 1, 1) := by decide +kernel
theorem dX1_cross_101 : decode cX1_cross 101 = .ok (.isub, 1) := by decide +kernel
theorem dX1_cross_102 : decode cX1_cross 102 = .ok (.invokevirtual 29, 3) := by decide +kernel
theorem dX1_cross_105 : decode cX1_cross 105 = .ok (.iinc 8 1, 3) := by decide +kernel
theorem dX1_cross_108 : decode cX1_cross 108 = .ok (.goto (-48), 3) := by decide +kernel
theorem dX1_cross_111 : decode cX1_cross 111 = .ok (.aload_n 0, 1) := by decide +kernel
theorem dX1_cross_112 : decode cX1_cross 112 = .ok (.aload_n 1, 1) := by decide +kernel
theorem dX1_cross_113 : decode cX1_cross 113 = .ok (.iload_n 2, 1) := by decide +kernel
theorem dX1_cross_114 : decode cX1_cross 114 = .ok (.iload_n 3, 1) := by decide +kernel
theorem dX1_cross_115 : decode cX1_cross 115 = .ok (.iload 4, 2) := by decide +kernel
theorem dX1_cross_117 : decode cX1_cross 117 = .ok (.iconst 1, 1) := by decide +kernel
theorem dX1_cross_118 : decode cX1_cross 118 = .ok (.iadd, 1) := by decide +kernel
theorem dX1_cross_119 : decode cX1_cross 119 = .ok (.iload 5, 2) := by decide +kernel
theorem dX1_cross_121 : decode cX1_cross 121 = .ok (.invokevirtual 29, 3) := by decide +kernel
theorem dX1_cross_124 : decode cX1_cross 124 = .ok (.return_, 1) := by decide +kernel
theorem dX1_reach_0 : decode cX1_reach 0 = .ok (.iload_n 2, 1) := by decide +kernel
theorem dX1_reach_1 : decode cX1_reach 1 = .ok (.ifCond .lt 39, 3) := by decide +kernel
theorem dX1_reach_4 : decode cX1_reach 4 = .ok (.iload_n 2, 1) := by decide +kernel
theorem dX1_reach_5 : decode cX1_reach 5 = .ok (.sipush 128, 3) := by decide +kernel
theorem dX1_reach_8 : decode cX1_reach 8 = .ok (.if_icmp .ge 32, 3) := by decide +kernel
theorem dX1_reach_11 : decode cX1_reach 11 = .ok (.aload_n 0, 1) := by decide +kernel
theorem dX1_reach_12 : decode cX1_reach 12 = .ok (.getfield 11, 3) := by decide +kernel
theorem dX1_reach_15 : decode cX1_reach 15 = .ok (.iload_n 2, 1) := by decide +kernel
theorem dX1_reach_16 : decode cX1_reach 16 = .ok (.iaload, 1) := by decide +kernel
theorem dX1_reach_17 : decode cX1_reach 17 = .ok (.iconst (-1), 1) := by decide +kernel
theorem dX1_reach_18 : decode cX1_reach 18 = .ok (.if_icmp .ne 22, 3) := by decide +kernel
theorem dX1_reach_21 : decode cX1_reach 21 = .ok (.aload_n 0, 1) := by decide +kernel
theorem dX1_reach_22 : decode cX1_reach 22 = .ok (.getfield 11, 3) := by decide +kernel
theorem dX1_reach_25 : decode cX1_reach 25 = .ok (.iload_n 2, 1) := by decide +kernel
theorem dX1_reach_26 : decode cX1_reach 26 = .ok (.aload_n 0, 1) := by decide +kernel
theorem dX1_reach_27 : decode cX1_reach 27 = .ok (.getfield 11, 3) := by decide +kernel
theorem dX1_reach_30 : decode cX1_reach 30 = .ok (.iload_n 1, 1) := by decide +kernel
theorem dX1_reach_31 : decode cX1_reach 31 = .ok (.iaload, 1) := by decide +kernel
theorem dX1_reach_32 : decode cX1_reach 32 = .ok (.iconst 1, 1) := by decide +kernel
theorem dX1_reach_33 : decode cX1_reach 33 = .ok (.iadd, 1) := by decide +kernel
theorem dX1_reach_34 : decode cX1_reach 34 = .ok (.iastore, 1) := by decide +kernel
theorem dX1_reach_35 : decode cX1_reach 35 = .ok (.aload_n 0, 1) := by decide +kernel
theorem dX1_reach_36 : decode cX1_reach 36 = .ok (.iconst 1, 1) := by decide +kernel
theorem dX1_reach_37 : decode cX1_reach 37 = .ok (.putfield 21, 3) := by decide +kernel
theorem dX1_reach_40 : decode cX1_reach 40 = .ok (.return_, 1) := by decide +kernel
theorem dX2_init_0 : decode cX2_init 0 = .ok (.aload_n 0, 1) := by decide +kernel
theorem dX2_init_1 : decode cX2_init 1 = .ok (.invokespecial 3, 3) := by decide +kernel
theorem dX2_init_4 : decode cX2_init 4 = .ok (.aload_n 0, 1) := by decide +kernel
theorem dX2_init_5 : decode cX2_init 5 = .ok (.bipush 15, 2) := by decide +kernel
theorem dX2_init_7 : decode cX2_init 7 = .ok (.newarray .int, 2) := by decide +kernel
theorem dX2_init_9 : decode cX2_init 9 = .ok (.putfield 9, 3) := by decide +kernel
theorem dX2_init_12 : decode cX2_init 12 = .ok (.aload_n 0, 1) := by decide +kernel
theorem dX2_init_13 : decode cX2_init 13 = .ok (.bipush 15, 2) := by decide +kernel
theorem dX2_init_15 : decode cX2_init 15 = .ok (.newarray .int, 2) := by decide +kernel
theorem dX2_init_17 : decode cX2_init 17 = .ok (.putfield 15, 3) := by decide +kernel
theorem dX2_init_20 : decode cX2_init 20 = .ok (.return_, 1) := by decide +kernel
theorem dX2_forget_0 : decode cX2_forget 0 = .ok (.aload_n 0, 1) := by decide +kernel
theorem dX2_forget_1 : decode cX2_forget 1 = .ok (.iconst 0, 1) := by decide +kernel
theorem dX2_forget_2 : decode cX2_forget 2 = .ok (.putfield 18, 3) := by decide +kernel
theorem dX2_forget_5 : decode cX2_forget 5 = .ok (.aload_n 0, 1) := by decide +kernel
theorem dX2_forget_6 : decode cX2_forget 6 = .ok (.iconst 0, 1) := by decide +kernel
theorem dX2_forget_7 : decode cX2_forget 7 = .ok (.putfield 22, 3) := by decide +kernel
theorem dX2_forget_10 : decode cX2_forget 10 = .ok (.aload_n 0, 1) := by decide +kernel
theorem dX2_forget_11 : decode cX2_forget 11 = .ok (.iconst 0, 1) := by decide +kernel
theorem dX2_forget_12 : decode cX2_forget 12 = .ok (.putfield 25, 3) := by decide +kernel
theorem dX2_forget_15 : decode cX2_forget 15 = .ok (.aload_n 0, 1) := by decide +kernel
theorem dX2_forget_16 : decode cX2_forget 16 = .ok (.iconst 0, 1) := by decide +kernel
theorem dX2_forget_17 : decode cX2_forget 17 = .ok (.putfield 28, 3) := by decide +kernel
theorem dX2_forget_20 : decode cX2_forget 20 = .ok (.return_, 1) := by decide +kernel
theorem dX2_learn_0 : decode cX2_learn 0 = .ok (.iload_n 2, 1) := by decide +kernel
theorem dX2_learn_1 : decode cX2_learn 1 = .ok (.ifCond .eq 18, 3) := by decide +kernel
theorem dX2_learn_4 : decode cX2_learn 4 = .ok (.aload_n 0, 1) := by decide +kernel
theorem dX2_learn_5 : decode cX2_learn 5 = .ok (.dup, 1) := by decide +kernel
theorem dX2_learn_6 : decode cX2_learn 6 = .ok (.getfield 22, 3) := by decide +kernel
theorem dX2_learn_9 : decode cX2_learn 9 = .ok (.iconst 1, 1) := by decide +kernel
theorem dX2_learn_10 : decode cX2_learn 10 = .ok (.iload_n 1, 1) := by decide +kernel
theorem dX2_learn_11 : decode cX2_learn 11 = .ok (.ishl, 1) := by decide +kernel
theorem dX2_learn_12 : decode cX2_learn 12 = .ok (.ior, 1) := by decide +kernel
theorem dX2_learn_13 : decode cX2_learn 13 = .ok (.putfield 22, 3) := by decide +kernel
theorem dX2_learn_16 : decode cX2_learn 16 = .ok (.goto 15, 3) := by decide +kernel
theorem dX2_learn_19 : decode cX2_learn 19 = .ok (.aload_n 0, 1) := by decide +kernel
theorem dX2_learn_20 : decode cX2_learn 20 = .ok (.dup, 1) := by decide +kernel
theorem dX2_learn_21 : decode cX2_learn 21 = .ok (.getfield 25, 3) := by decide +kernel
theorem dX2_learn_24 : decode cX2_learn 24 = .ok (.iconst 1, 1) := by decide +kernel
theorem dX2_learn_25 : decode cX2_learn 25 = .ok (.iload_n 1, 1) := by decide +kernel
theorem dX2_learn_26 : decode cX2_learn 26 = .ok (.ishl, 1) := by decide +kernel
theorem dX2_learn_27 : decode cX2_learn 27 = .ok (.ior, 1) := by decide +kernel
theorem dX2_learn_28 : decode cX2_learn 28 = .ok (.putfield 25, 3) := by decide +kernel
theorem dX2_learn_31 : decode cX2_learn 31 = .ok (.aload_n 0, 1) := by decide +kernel
theorem dX2_learn_32 : decode cX2_learn 32 = .ok (.dup, 1) := by decide +kernel
theorem dX2_learn_33 : decode cX2_learn 33 = .ok (.getfield 18, 3) := by decide +kernel
theorem dX2_learn_36 : decode cX2_learn 36 = .ok (.iconst 1, 1) := by decide +kernel
theorem dX2_learn_37 : decode cX2_learn 37 = .ok (.iadd, 1) := by decide +kernel
theorem dX2_learn_38 : decode cX2_learn 38 = .ok (.putfield 18, 3) := by decide +kernel
theorem dX2_learn_41 : decode cX2_learn 41 = .ok (.aload_n 0, 1) := by decide +kernel
theorem dX2_learn_42 : decode cX2_learn 42 = .ok (.getfield 18, 3) := by decide +kernel
theorem dX2_learn_45 : decode cX2_learn 45 = .ok (.ireturn, 1) := by decide +kernel
theorem dX2_allows_0 : decode cX2_allows 0 = .ok (.iload_n 1, 1) := by decide +kernel
theorem dX2_allows_1 : decode cX2_allows 1 = .ok (.aload_n 0, 1) := by decide +kernel
theorem dX2_allows_2 : decode cX2_allows 2 = .ok (.getfield 22, 3) := by decide +kernel
theorem dX2_allows_5 : decode cX2_allows 5 = .ok (.iand, 1) := by decide +kernel
theorem dX2_allows_6 : decode cX2_allows 6 = .ok (.aload_n 0, 1) := by decide +kernel
theorem dX2_allows_7 : decode cX2_allows 7 = .ok (.getfield 22, 3) := by decide +kernel
theorem dX2_allows_10 : decode cX2_allows 10 = .ok (.if_icmp .ne 16, 3) := by decide +kernel
theorem dX2_allows_13 : decode cX2_allows 13 = .ok (.iload_n 1, 1) := by decide +kernel
theorem dX2_allows_14 : decode cX2_allows 14 = .ok (.aload_n 0, 1) := by decide +kernel
theorem dX2_allows_15 : decode cX2_allows 15 = .ok (.getfield 25, 3) := by decide +kernel
theorem dX2_allows_18 : decode cX2_allows 18 = .ok (.iand, 1) := by decide +kernel
theorem dX2_allows_19 : decode cX2_allows 19 = .ok (.ifCond .ne 7, 3) := by decide +kernel
theorem dX2_allows_22 : decode cX2_allows 22 = .ok (.iconst 1, 1) := by decide +kernel
theorem dX2_allows_23 : decode cX2_allows 23 = .ok (.goto 4, 3) := by decide +kernel
theorem dX2_allows_26 : decode cX2_allows 26 = .ok (.iconst 0, 1) := by decide +kernel
theorem dX2_allows_27 : decode cX2_allows 27 = .ok (.ireturn, 1) := by decide +kernel
theorem dX2_enter_0 : decode cX2_enter 0 = .ok (.aload_n 0, 1) := by decide +kernel
theorem dX2_enter_1 : decode cX2_enter 1 = .ok (.getfield 28, 3) := by decide +kernel
theorem dX2_enter_4 : decode cX2_enter 4 = .ok (.bipush 15, 2) := by decide +kernel
theorem dX2_enter_6 : decode cX2_enter 6 = .ok (.if_icmp .ge 33, 3) := by decide +kernel
theorem dX2_enter_9 : decode cX2_enter 9 = .ok (.aload_n 0, 1) := by decide +kernel
theorem dX2_enter_10 : decode cX2_enter 10 = .ok (.getfield 9, 3) := by decide +kernel
theorem dX2_enter_13 : decode cX2_enter 13 = .ok (.aload_n 0, 1) := by decide +kernel
theorem dX2_enter_14 : decode cX2_enter 14 = .ok (.getfield 28, 3) := by decide +kernel
theorem dX2_enter_17 : decode cX2_enter 17 = .ok (.iload_n 1, 1) := by decide +kernel
theorem dX2_enter_18 : decode cX2_enter 18 = .ok (.iastore, 1) := by decide +kernel
theorem dX2_enter_19 : decode cX2_enter 19 = .ok (.aload_n 0, 1) := by decide +kernel
theorem dX2_enter_20 : decode cX2_enter 20 = .ok (.getfield 15, 3) := by decide +kernel
theorem dX2_enter_23 : decode cX2_enter 23 = .ok (.aload_n 0, 1) := by decide +kernel
theorem dX2_enter_24 : decode cX2_enter 24 = .ok (.getfield 28, 3) := by decide +kernel
theorem dX2_enter_27 : decode cX2_enter 27 = .ok (.iload_n 2, 1) := by decide +kernel
theorem dX2_enter_28 : decode cX2_enter 28 = .ok (.iastore, 1) := by decide +kernel
theorem dX2_enter_29 : decode cX2_enter 29 = .ok (.aload_n 0, 1) := by decide +kernel
theorem dX2_enter_30 : decode cX2_enter 30 = .ok (.dup, 1) := by decide +kernel
theorem dX2_enter_31 : decode cX2_enter 31 = .ok (.getfield 28, 3) := by decide +kernel
theorem dX2_enter_34 : decode cX2_enter 34 = .ok (.iconst 1, 1) := by decide +kernel
theorem dX2_enter_35 : decode cX2_enter 35 = .ok (.iadd, 1) := by decide +kernel
theorem dX2_enter_36 : decode cX2_enter 36 = .ok (.putfield 28, 3) := by decide +kernel
theorem dX2_enter_39 : decode cX2_enter 39 = .ok (.aload_n 0, 1) := by decide +kernel
theorem dX2_enter_40 : decode cX2_enter 40 = .ok (.getfield 28, 3) := by decide +kernel
theorem dX2_enter_43 : decode cX2_enter 43 = .ok (.ireturn, 1) := by decide +kernel
theorem dX2_firstWrong_0 : decode cX2_firstWrong 0 = .ok (.iconst 0, 1) := by decide +kernel
theorem dX2_firstWrong_1 : decode cX2_firstWrong 1 = .ok (.istore_n 2, 1) := by decide +kernel
theorem dX2_firstWrong_2 : decode cX2_firstWrong 2 = .ok (.iload_n 2, 1) := by decide +kernel
theorem dX2_firstWrong_3 : decode cX2_firstWrong 3 = .ok (.aload_n 0, 1) := by decide +kernel
theorem dX2_firstWrong_4 : decode cX2_firstWrong 4 = .ok (.getfield 28, 3) := by decide +kernel
theorem dX2_firstWrong_7 : decode cX2_firstWrong 7 = .ok (.if_icmp .ge 30, 3) := by decide +kernel
theorem dX2_firstWrong_10 : decode cX2_firstWrong 10 = .ok (.iload_n 1, 1) := by decide +kernel
theorem dX2_firstWrong_11 : decode cX2_firstWrong 11 = .ok (.aload_n 0, 1) := by decide +kernel
theorem dX2_firstWrong_12 : decode cX2_firstWrong 12 = .ok (.getfield 9, 3) := by decide +kernel
theorem dX2_firstWrong_15 : decode cX2_firstWrong 15 = .ok (.iload_n 2, 1) := by decide +kernel
theorem dX2_firstWrong_16 : decode cX2_firstWrong 16 = .ok (.iaload, 1) := by decide +kernel
theorem dX2_firstWrong_17 : decode cX2_firstWrong 17 = .ok (.ishr, 1) := by decide +kernel
theorem dX2_firstWrong_18 : decode cX2_firstWrong 18 = .ok (.iconst 1, 1) := by decide +kernel
theorem dX2_firstWrong_19 : decode cX2_firstWrong 19 = .ok (.iand, 1) := by decide +kernel
theorem dX2_firstWrong_20 : decode cX2_firstWrong 20 = .ok (.aload_n 0, 1) := by decide +kernel
theorem dX2_firstWrong_21 : decode cX2_firstWrong 21 = .ok (.getfield 15, 3) := by decide +kernel
theorem dX2_firstWrong_24 : decode cX2_firstWrong 24 = .ok (.iload_n 2, 1) := by decide +kernel
theorem dX2_firstWrong_25 : decode cX2_firstWrong 25 = .ok (.iaload, 1) := by decide +kernel
theorem dX2_firstWrong_26 : decode cX2_firstWrong 26 = .ok (.if_icmp .eq 5, 3) := by decide +kernel
theorem dX2_firstWrong_29 : decode cX2_firstWrong 29 = .ok (.iload_n 2, 1) := by decide +kernel
theorem dX2_firstWrong_30 : decode cX2_firstWrong 30 = .ok (.ireturn, 1) := by decide +kernel
theorem dX2_firstWrong_31 : decode cX2_firstWrong 31 = .ok (.iinc 2 1, 3) := by decide +kernel
theorem dX2_firstWrong_34 : decode cX2_firstWrong 34 = .ok (.goto (-32), 3) := by decide +kernel
theorem dX2_firstWrong_37 : decode cX2_firstWrong 37 = .ok (.iconst (-1), 1) := by decide +kernel
theorem dX2_firstWrong_38 : decode cX2_firstWrong 38 = .ok (.ireturn, 1) := by decide +kernel
theorem dX3_init_0 : decode cX3_init 0 = .ok (.aload_n 0, 1) := by decide +kernel
theorem dX3_init_1 : decode cX3_init 1 = .ok (.invokespecial 3, 3) := by decide +kernel
theorem dX3_init_4 : decode cX3_init 4 = .ok (.aload_n 0, 1) := by decide +kernel
theorem dX3_init_5 : decode cX3_init 5 = .ok (.bipush 7, 2) := by decide +kernel
theorem dX3_init_7 : decode cX3_init 7 = .ok (.newarray .int, 2) := by decide +kernel
theorem dX3_init_9 : decode cX3_init 9 = .ok (.putfield 9, 3) := by decide +kernel
theorem dX3_init_12 : decode cX3_init 12 = .ok (.aload_n 0, 1) := by decide +kernel
theorem dX3_init_13 : decode cX3_init 13 = .ok (.bipush 7, 2) := by decide +kernel
theorem dX3_init_15 : decode cX3_init 15 = .ok (.newarray .int, 2) := by decide +kernel
theorem dX3_init_17 : decode cX3_init 17 = .ok (.putfield 15, 3) := by decide +kernel
theorem dX3_init_20 : decode cX3_init 20 = .ok (.return_, 1) := by decide +kernel
theorem dX3_find_0 : decode cX3_find 0 = .ok (.aload_n 0, 1) := by decide +kernel
theorem dX3_find_1 : decode cX3_find 1 = .ok (.iload_n 2, 1) := by decide +kernel
theorem dX3_find_2 : decode cX3_find 2 = .ok (.putfield 18, 3) := by decide +kernel
theorem dX3_find_5 : decode cX3_find 5 = .ok (.aload_n 0, 1) := by decide +kernel
theorem dX3_find_6 : decode cX3_find 6 = .ok (.iload_n 3, 1) := by decide +kernel
theorem dX3_find_7 : decode cX3_find 7 = .ok (.putfield 22, 3) := by decide +kernel
theorem dX3_find_10 : decode cX3_find 10 = .ok (.aload_n 0, 1) := by decide +kernel
theorem dX3_find_11 : decode cX3_find 11 = .ok (.iconst (-1), 1) := by decide +kernel
theorem dX3_find_12 : decode cX3_find 12 = .ok (.putfield 25, 3) := by decide +kernel
theorem dX3_find_15 : decode cX3_find 15 = .ok (.aload_n 0, 1) := by decide +kernel
theorem dX3_find_16 : decode cX3_find 16 = .ok (.iconst (-1), 1) := by decide +kernel
theorem dX3_find_17 : decode cX3_find 17 = .ok (.putfield 28, 3) := by decide +kernel
theorem dX3_find_20 : decode cX3_find 20 = .ok (.aload_n 0, 1) := by decide +kernel
theorem dX3_find_21 : decode cX3_find 21 = .ok (.getfield 15, 3) := by decide +kernel
theorem dX3_find_24 : decode cX3_find 24 = .ok (.iconst (-1), 1) := by decide +kernel
theorem dX3_find_25 : decode cX3_find 25 = .ok (.invokestatic 31, 3) := by decide +kernel
theorem dX3_find_28 : decode cX3_find 28 = .ok (.aload_n 0, 1) := by decide +kernel
theorem dX3_find_29 : decode cX3_find 29 = .ok (.aload_n 1, 1) := by decide +kernel
theorem dX3_find_30 : decode cX3_find 30 = .ok (.iconst 0, 1) := by decide +kernel
theorem dX3_find_31 : decode cX3_find 31 = .ok (.iconst 0, 1) := by decide +kernel
theorem dX3_find_32 : decode cX3_find 32 = .ok (.iconst 0, 1) := by decide +kernel
theorem dX3_find_33 : decode cX3_find 33 = .ok (.invokevirtual 37, 3) := by decide +kernel
theorem dX3_find_36 : decode cX3_find 36 = .ok (.return_, 1) := by decide +kernel
theorem dX3_pairFrom_0 : decode cX3_pairFrom 0 = .ok (.iload_n 2, 1) := by decide +kernel
theorem dX3_pairFrom_1 : decode cX3_pairFrom 1 = .ok (.aload_n 1, 1) := by decide +kernel
theorem dX3_pairFrom_2 : decode cX3_pairFrom 2 = .ok (.getfield 41, 3) := by decide +kernel
theorem dX3_pairFrom_5 : decode cX3_pairFrom 5 = .ok (.if_icmp .lt 11, 3) := by decide +kernel
theorem dX3_pairFrom_8 : decode cX3_pairFrom 8 = .ok (.aload_n 0, 1) := by decide +kernel
theorem dX3_pairFrom_9 : decode cX3_pairFrom 9 = .ok (.iload_n 3, 1) := by decide +kernel
theorem dX3_pairFrom_10 : decode cX3_pairFrom 10 = .ok (.iload 4, 2) := by decide +kernel
theorem dX3_pairFrom_12 : decode cX3_pairFrom 12 = .ok (.invokevirtual 46, 3) := by decide +kernel
theorem dX3_pairFrom_15 : decode cX3_pairFrom 15 = .ok (.return_, 1) := by decide +kernel
theorem dX3_pairFrom_16 : decode cX3_pairFrom 16 = .ok (.aload_n 0, 1) := by decide +kernel
theorem dX3_pairFrom_17 : decode cX3_pairFrom 17 = .ok (.getfield 15, 3) := by decide +kernel
theorem dX3_pairFrom_20 : decode cX3_pairFrom 20 = .ok (.iload_n 2, 1) := by decide +kernel
theorem dX3_pairFrom_21 : decode cX3_pairFrom 21 = .ok (.iaload, 1) := by decide +kernel
theorem dX3_pairFrom_22 : decode cX3_pairFrom 22 = .ok (.iconst (-1), 1) := by decide +kernel
theorem dX3_pairFrom_23 : decode cX3_pairFrom 23 = .ok (.if_icmp .ne 23, 3) := by decide +kernel
theorem dX3_pairFrom_26 : decode cX3_pairFrom 26 = .ok (.iload_n 3, 1) := by decide +kernel
theorem dX3_pairFrom_27 : decode cX3_pairFrom 27 = .ok (.aload_n 0, 1) := by decide +kernel
theorem dX3_pairFrom_28 : decode cX3_pairFrom 28 = .ok (.getfield 22, 3) := by decide +kernel
theorem dX3_pairFrom_31 : decode cX3_pairFrom 31 = .ok (.if_icmp .ge 15, 3) := by decide +kernel
theorem dX3_pairFrom_34 : decode cX3_pairFrom 34 = .ok (.aload_n 1, 1) := by decide +kernel
theorem dX3_pairFrom_35 : decode cX3_pairFrom 35 = .ok (.iload_n 2, 1) := by decide +kernel
theorem dX3_pairFrom_36 : decode cX3_pairFrom 36 = .ok (.aload_n 0, 1) := by decide +kernel
theorem dX3_pairFrom_37 : decode cX3_pairFrom 37 = .ok (.getfield 18, 3) := by decide +kernel
theorem dX3_pairFrom_40 : decode cX3_pairFrom 40 = .ok (.invokevirtual 50, 3) := by decide +kernel
theorem dX3_pairFrom_43 : decode cX3_pairFrom 43 = .ok (.goto 4, 3) := by decide +kernel
theorem dX3_pairFrom_46 : decode cX3_pairFrom 46 = .ok (.iconst 0, 1) := by decide +kernel
theorem dX3_pairFrom_47 : decode cX3_pairFrom 47 = .ok (.istore 5, 2) := by decide +kernel
theorem dX3_pairFrom_49 : decode cX3_pairFrom 49 = .ok (.iload_n 2, 1) := by decide +kernel
theorem dX3_pairFrom_50 : decode cX3_pairFrom 50 = .ok (.iconst 1, 1) := by decide +kernel
theorem dX3_pairFrom_51 : decode cX3_pairFrom 51 = .ok (.iadd, 1) := by decide +kernel
theorem dX3_pairFrom_52 : decode cX3_pairFrom 52 = .ok (.istore 6, 2) := by decide +kernel
theorem dX3_pairFrom_54 : decode cX3_pairFrom 54 = .ok (.iload 6, 2) := by decide +kernel
theorem dX3_pairFrom_56 : decode cX3_pairFrom 56 = .ok (.aload_n 1, 1) := by decide +kernel
theorem dX3_pairFrom_57 : decode cX3_pairFrom 57 = .ok (.getfield 41, 3) := by decide +kernel
theorem dX3_pairFrom_60 : decode cX3_pairFrom 60 = .ok (.if_icmp .ge 83, 3) := by decide +kernel
theorem dX3_pairFrom_63 : decode cX3_pairFrom 63 = .ok (.iload 5, 2) := by decide +kernel
theorem dX3_pairFrom_65 : decode cX3_pairFrom 65 = .ok (.iload 6, 2) := by decide +kernel
theorem dX3_pairFrom_67 : decode cX3_pairFrom 67 = .ok (.ishr, 1) := by decide +kernel
theorem dX3_pairFrom_68 : decode cX3_pairFrom 68 = .ok (.iconst 1, 1) := by decide +kernel
theorem dX3_pairFrom_69 : decode cX3_pairFrom 69 = .ok (.iand, 1) := by decide +kernel
theorem dX3_pairFrom_70 : decode cX3_pairFrom 70 = .ok (.iconst 1, 1) := by decide +kernel
theorem dX3_pairFrom_71 : decode cX3_pairFrom 71 = .ok (.if_icmp .ne 66, 3) := by decide +kernel
theorem dX3_pairFrom_74 : decode cX3_pairFrom 74 = .ok (.aload_n 0, 1) := by decide +kernel
theorem dX3_pairFrom_75 : decode cX3_pairFrom 75 = .ok (.getfield 15, 3) := by decide +kernel
theorem dX3_pairFrom_78 : decode cX3_pairFrom 78 = .ok (.iload 6, 2) := by decide +kernel
theorem dX3_pairFrom_80 : decode cX3_pairFrom 80 = .ok (.iaload, 1) := by decide +kernel
theorem dX3_pairFrom_81 : decode cX3_pairFrom 81 = .ok (.iconst (-1), 1) := by decide +kernel
theorem dX3_pairFrom_82 : decode cX3_pairFrom 82 = .ok (.if_icmp .ne 55, 3) := by decide +kernel
theorem dX3_pairFrom_85 : decode cX3_pairFrom 85 = .ok (.aload_n 0, 1) := by decide +kernel
theorem dX3_pairFrom_86 : decode cX3_pairFrom 86 = .ok (.getfield 15, 3) := by decide +kernel
theorem dX3_pairFrom_89 : decode cX3_pairFrom 89 = .ok (.iload_n 2, 1) := by decide +kernel
theorem dX3_pairFrom_90 : decode cX3_pairFrom 90 = .ok (.iload 6, 2) := by decide +kernel
theorem dX3_pairFrom_92 : decode cX3_pairFrom 92 = .ok (.iastore, 1) := by decide +kernel
theorem dX3_pairFrom_93 : decode cX3_pairFrom 93 = .ok (.aload_n 0, 1) := by decide +kernel
theorem dX3_pairFrom_94 : decode cX3_pairFrom 94 = .ok (.getfield 15, 3) := by decide +kernel
theorem dX3_pairFrom_97 : decode cX3_pairFrom 97 = .ok (.iload 6, 2) := by decide +kernel
theorem dX3_pairFrom_99 : decode cX3_pairFrom 99 = .ok (.iload_n 2, 1) := by decide +kernel
theorem dX3_pairFrom_100 : decode cX3_pairFrom 100 = .ok (.iastore, 1) := by decide +kernel
theorem dX3_pairFrom_101 : decode cX3_pairFrom 101 = .ok (.aload_n 0, 1) := by decide +kernel
theorem dX3_pairFrom_102 : decode cX3_pairFrom 102 = .ok (.aload_n 1, 1) := by decide +kernel
theorem dX3_pairFrom_103 : decode cX3_pairFrom 103 = .ok (.iload_n 2, 1) := by decide +kernel
theorem dX3_pairFrom_104 : decode cX3_pairFrom 104 = .ok (.iconst 1, 1) := by decide +kernel
theorem dX3_pairFrom_105 : decode cX3_pairFrom 105 = .ok (.iadd, 1) := by decide +kernel
theorem dX3_pairFrom_106 : decode cX3_pairFrom 106 = .ok (.iload_n 3, 1) := by decide +kernel
theorem dX3_pairFrom_107 : decode cX3_pairFrom 107 = .ok (.iconst 1, 1) := by decide +kernel
theorem dX3_pairFrom_108 : decode cX3_pairFrom 108 = .ok (.iadd, 1) := by decide +kernel
theorem dX3_pairFrom_109 : decode cX3_pairFrom 109 = .ok (.iload 4, 2) := by decide +kernel
theorem dX3_pairFrom_111 : decode cX3_pairFrom 111 = .ok (.aload_n 1, 1) := by decide +kernel
theorem dX3_pairFrom_112 : decode cX3_pairFrom 112 = .ok (.iload_n 2, 1) := by decide +kernel
theorem dX3_pairFrom_113 : decode cX3_pairFrom 113 = .ok (.iload 6, 2) := by decide +kernel
theorem dX3_pairFrom_115 : decode cX3_pairFrom 115 = .ok (.invokevirtual 54, 3) := by decide +kernel
theorem dX3_pairFrom_118 : decode cX3_pairFrom 118 = .ok (.iadd, 1) := by decide +kernel
theorem dX3_pairFrom_119 : decode cX3_pairFrom 119 = .ok (.invokevirtual 37, 3) := by decide +kernel
theorem dX3_pairFrom_122 : decode cX3_pairFrom 122 = .ok (.aload_n 0, 1) := by decide +kernel
theorem dX3_pairFrom_123 : decode cX3_pairFrom 123 = .ok (.getfield 15, 3) := by decide +kernel
theorem dX3_pairFrom_126 : decode cX3_pairFrom 126 = .ok (.iload_n 2, 1) := by decide +kernel
theorem dX3_pairFrom_127 : decode cX3_pairFrom 127 = .ok (.iconst (-1), 1) := by decide +kernel
theorem dX3_pairFrom_128 : decode cX3_pairFrom 128 = .ok (.iastore, 1) := by decide +kernel
theorem dX3_pairFrom_129 : decode cX3_pairFrom 129 = .ok (.aload_n 0, 1) := by decide +kernel
theorem dX3_pairFrom_130 : decode cX3_pairFrom 130 = .ok (.getfield 15, 3) := by decide +kernel
theorem dX3_pairFrom_133 : decode cX3_pairFrom 133 = .ok (.iload 6, 2) := by decide +kernel
theorem dX3_pairFrom_135 : decode cX3_pairFrom 135 = .ok (.iconst (-1), 1) := by decide +kernel
theorem dX3_pairFrom_136 : decode cX3_pairFrom 136 = .ok (.iastore, 1) := by decide +kernel
theorem dX3_pairFrom_137 : decode cX3_pairFrom 137 = .ok (.iinc 6 1, 3) := by decide +kernel
theorem dX3_pairFrom_140 : decode cX3_pairFrom 140 = .ok (.goto (-86), 3) := by decide +kernel
theorem dX3_pairFrom_143 : decode cX3_pairFrom 143 = .ok (.aload_n 0, 1) := by decide +kernel
theorem dX3_pairFrom_144 : decode cX3_pairFrom 144 = .ok (.aload_n 1, 1) := by decide +kernel
theorem dX3_pairFrom_145 : decode cX3_pairFrom 145 = .ok (.iload_n 2, 1) := by decide +kernel
theorem dX3_pairFrom_146 : decode cX3_pairFrom 146 = .ok (.iconst 1, 1) := by decide +kernel
theorem dX3_pairFrom_147 : decode cX3_pairFrom 147 = .ok (.iadd, 1) := by decide +kernel
theorem dX3_pairFrom_148 : decode cX3_pairFrom 148 = .ok (.iload_n 3, 1) := by decide +kernel
theorem dX3_pairFrom_149 : decode cX3_pairFrom 149 = .ok (.iload 4, 2) := by decide +kernel
theorem dX3_pairFrom_151 : decode cX3_pairFrom 151 = .ok (.invokevirtual 37, 3) := by decide +kernel
theorem dX3_pairFrom_154 : decode cX3_pairFrom 154 = .ok (.return_, 1) := by decide +kernel
theorem dX3_takeIfBetter_0 : decode cX3_takeIfBetter 0 = .ok (.iload_n 1, 1) := by decide +kernel
theorem dX3_takeIfBetter_1 : decode cX3_takeIfBetter 1 = .ok (.aload_n 0, 1) := by decide +kernel
theorem dX3_takeIfBetter_2 : decode cX3_takeIfBetter 2 = .ok (.getfield 25, 3) := by decide +kernel
theorem dX3_takeIfBetter_5 : decode cX3_takeIfBetter 5 = .ok (.if_icmp .gt 19, 3) := by decide +kernel
theorem dX3_takeIfBetter_8 : decode cX3_takeIfBetter 8 = .ok (.iload_n 1, 1) := by decide +kernel
theorem dX3_takeIfBetter_9 : decode cX3_takeIfBetter 9 = .ok (.aload_n 0, 1) := by decide +kernel
theorem dX3_takeIfBetter_10 : decode cX3_takeIfBetter 10 = .ok (.getfield 25, 3) := by decide +kernel
theorem dX3_takeIfBetter_13 : decode cX3_takeIfBetter 13 = .ok (.if_icmp .ne 36, 3) := by decide +kernel
theorem dX3_takeIfBetter_16 : decode cX3_takeIfBetter 16 = .ok (.iload_n 2, 1) := by decide +kernel
theorem dX3_takeIfBetter_17 : decode cX3_takeIfBetter 17 = .ok (.aload_n 0, 1) := by decide +kernel
theorem dX3_takeIfBetter_18 : decode cX3_takeIfBetter 18 = .ok (.getfield 28, 3) := by decide +kernel
theorem dX3_takeIfBetter_21 : decode cX3_takeIfBetter 21 = .ok (.if_icmp .le 28, 3) := by decide +kernel
theorem dX3_takeIfBetter_24 : decode cX3_takeIfBetter 24 = .ok (.aload_n 0, 1) := by decide +kernel
theorem dX3_takeIfBetter_25 : decode cX3_takeIfBetter 25 = .ok (.iload_n 1, 1) := by decide +kernel
theorem dX3_takeIfBetter_26 : decode cX3_takeIfBetter 26 = .ok (.putfield 25, 3) := by decide +kernel
theorem dX3_takeIfBetter_29 : decode cX3_takeIfBetter 29 = .ok (.aload_n 0, 1) := by decide +kernel
theorem dX3_takeIfBetter_30 : decode cX3_takeIfBetter 30 = .ok (.iload_n 2, 1) := by decide +kernel
theorem dX3_takeIfBetter_31 : decode cX3_takeIfBetter 31 = .ok (.putfield 28, 3) := by decide +kernel
theorem dX3_takeIfBetter_34 : decode cX3_takeIfBetter 34 = .ok (.aload_n 0, 1) := by decide +kernel
theorem dX3_takeIfBetter_35 : decode cX3_takeIfBetter 35 = .ok (.getfield 15, 3) := by decide +kernel
theorem dX3_takeIfBetter_38 : decode cX3_takeIfBetter 38 = .ok (.iconst 0, 1) := by decide +kernel
theorem dX3_takeIfBetter_39 : decode cX3_takeIfBetter 39 = .ok (.aload_n 0, 1) := by decide +kernel
theorem dX3_takeIfBetter_40 : decode cX3_takeIfBetter 40 = .ok (.getfield 9, 3) := by decide +kernel
theorem dX3_takeIfBetter_43 : decode cX3_takeIfBetter 43 = .ok (.iconst 0, 1) := by decide +kernel
theorem dX3_takeIfBetter_44 : decode cX3_takeIfBetter 44 = .ok (.bipush 7, 2) := by decide +kernel
theorem dX3_takeIfBetter_46 : decode cX3_takeIfBetter 46 = .ok (.invokestatic 57, 3) := by decide +kernel
theorem dX3_takeIfBetter_49 : decode cX3_takeIfBetter 49 = .ok (.return_, 1) := by decide +kernel
theorem dX4_init_0 : decode cX4_init 0 = .ok (.aload_n 0, 1) := by decide +kernel
theorem dX4_init_1 : decode cX4_init 1 = .ok (.invokespecial 3, 3) := by decide +kernel
theorem dX4_init_4 : decode cX4_init 4 = .ok (.aload_n 0, 1) := by decide +kernel
theorem dX4_init_5 : decode cX4_init 5 = .ok (.bipush 20, 2) := by decide +kernel
theorem dX4_init_7 : decode cX4_init 7 = .ok (.anewarray 9, 3) := by decide +kernel
theorem dX4_init_10 : decode cX4_init 10 = .ok (.putfield 11, 3) := by decide +kernel
theorem dX4_init_13 : decode cX4_init 13 = .ok (.iconst 0, 1) := by decide +kernel
theorem dX4_init_14 : decode cX4_init 14 = .ok (.istore_n 1, 1) := by decide +kernel
theorem dX4_init_15 : decode cX4_init 15 = .ok (.iload_n 1, 1) := by decide +kernel
theorem dX4_init_16 : decode cX4_init 16 = .ok (.bipush 20, 2) := by decide +kernel
theorem dX4_init_18 : decode cX4_init 18 = .ok (.if_icmp .ge 22, 3) := by decide +kernel
theorem dX4_init_21 : decode cX4_init 21 = .ok (.aload_n 0, 1) := by decide +kernel
theorem dX4_init_22 : decode cX4_init 22 = .ok (.getfield 11, 3) := by decide +kernel
theorem dX4_init_25 : decode cX4_init 25 = .ok (.iload_n 1, 1) := by decide +kernel
theorem dX4_init_26 : decode cX4_init 26 = .ok (.new 9, 3) := by decide +kernel
theorem dX4_init_29 : decode cX4_init 29 = .ok (.dup, 1) := by decide +kernel
theorem dX4_init_30 : decode cX4_init 30 = .ok (.invokespecial 17, 3) := by decide +kernel
theorem dX4_init_33 : decode cX4_init 33 = .ok (.aastore, 1) := by decide +kernel
theorem dX4_init_34 : decode cX4_init 34 = .ok (.iinc 1 1, 3) := by decide +kernel
theorem dX4_init_37 : decode cX4_init 37 = .ok (.goto (-22), 3) := by decide +kernel
theorem dX4_init_40 : decode cX4_init 40 = .ok (.return_, 1) := by decide +kernel
theorem dX4_remember_0 : decode cX4_remember 0 = .ok (.aload_n 0, 1) := by decide +kernel
theorem dX4_remember_1 : decode cX4_remember 1 = .ok (.getfield 11, 3) := by decide +kernel
theorem dX4_remember_4 : decode cX4_remember 4 = .ok (.aload_n 0, 1) := by decide +kernel
theorem dX4_remember_5 : decode cX4_remember 5 = .ok (.getfield 18, 3) := by decide +kernel
theorem dX4_remember_8 : decode cX4_remember 8 = .ok (.aaload, 1) := by decide +kernel
theorem dX4_remember_9 : decode cX4_remember 9 = .ok (.aload_n 1, 1) := by decide +kernel
theorem dX4_remember_10 : decode cX4_remember 10 = .ok (.invokevirtual 22, 3) := by decide +kernel
theorem dX4_remember_13 : decode cX4_remember 13 = .ok (.aload_n 0, 1) := by decide +kernel
theorem dX4_remember_14 : decode cX4_remember 14 = .ok (.aload_n 0, 1) := by decide +kernel
theorem dX4_remember_15 : decode cX4_remember 15 = .ok (.getfield 18, 3) := by decide +kernel
theorem dX4_remember_18 : decode cX4_remember 18 = .ok (.iconst 1, 1) := by decide +kernel
theorem dX4_remember_19 : decode cX4_remember 19 = .ok (.iadd, 1) := by decide +kernel
theorem dX4_remember_20 : decode cX4_remember 20 = .ok (.bipush 20, 2) := by decide +kernel
theorem dX4_remember_22 : decode cX4_remember 22 = .ok (.if_icmp .ge 12, 3) := by decide +kernel
theorem dX4_remember_25 : decode cX4_remember 25 = .ok (.aload_n 0, 1) := by decide +kernel
theorem dX4_remember_26 : decode cX4_remember 26 = .ok (.getfield 18, 3) := by decide +kernel
theorem dX4_remember_29 : decode cX4_remember 29 = .ok (.iconst 1, 1) := by decide +kernel
theorem dX4_remember_30 : decode cX4_remember 30 = .ok (.iadd, 1) := by decide +kernel
theorem dX4_remember_31 : decode cX4_remember 31 = .ok (.goto 4, 3) := by decide +kernel
theorem dX4_remember_34 : decode cX4_remember 34 = .ok (.iconst 0, 1) := by decide +kernel
theorem dX4_remember_35 : decode cX4_remember 35 = .ok (.putfield 18, 3) := by decide +kernel
theorem dX4_remember_38 : decode cX4_remember 38 = .ok (.aload_n 0, 1) := by decide +kernel
theorem dX4_remember_39 : decode cX4_remember 39 = .ok (.aload_n 0, 1) := by decide +kernel
theorem dX4_remember_40 : decode cX4_remember 40 = .ok (.getfield 26, 3) := by decide +kernel
theorem dX4_remember_43 : decode cX4_remember 43 = .ok (.iconst 1, 1) := by decide +kernel
theorem dX4_remember_44 : decode cX4_remember 44 = .ok (.iadd, 1) := by decide +kernel
theorem dX4_remember_45 : decode cX4_remember 45 = .ok (.bipush 20, 2) := by decide +kernel
theorem dX4_remember_47 : decode cX4_remember 47 = .ok (.invokestatic 29, 3) := by decide +kernel
theorem dX4_remember_50 : decode cX4_remember 50 = .ok (.putfield 26, 3) := by decide +kernel
theorem dX4_remember_53 : decode cX4_remember 53 = .ok (.return_, 1) := by decide +kernel
theorem dX4_restore_0 : decode cX4_restore 0 = .ok (.aload_n 0, 1) := by decide +kernel
theorem dX4_restore_1 : decode cX4_restore 1 = .ok (.getfield 26, 3) := by decide +kernel
theorem dX4_restore_4 : decode cX4_restore 4 = .ok (.ifCond .le 48, 3) := by decide +kernel
theorem dX4_restore_7 : decode cX4_restore 7 = .ok (.aload_n 0, 1) := by decide +kernel
theorem dX4_restore_8 : decode cX4_restore 8 = .ok (.aload_n 0, 1) := by decide +kernel
theorem dX4_restore_9 : decode cX4_restore 9 = .ok (.getfield 18, 3) := by decide +kernel
theorem dX4_restore_12 : decode cX4_restore 12 = .ok (.ifCond .le 12, 3) := by decide +kernel
theorem dX4_restore_15 : decode cX4_restore 15 = .ok (.aload_n 0, 1) := by decide +kernel
theorem dX4_restore_16 : decode cX4_restore 16 = .ok (.getfield 18, 3) := by decide +kernel
theorem dX4_restore_19 : decode cX4_restore 19 = .ok (.iconst 1, 1) := by decide +kernel
theorem dX4_restore_20 : decode cX4_restore 20 = .ok (.isub, 1) := by decide +kernel
theorem dX4_restore_21 : decode cX4_restore 21 = .ok (.goto 5, 3) := by decide +kernel
theorem dX4_restore_24 : decode cX4_restore 24 = .ok (.bipush 19, 2) := by decide +kernel
theorem dX4_restore_26 : decode cX4_restore 26 = .ok (.putfield 18, 3) := by decide +kernel
theorem dX4_restore_29 : decode cX4_restore 29 = .ok (.aload_n 0, 1) := by decide +kernel
theorem dX4_restore_30 : decode cX4_restore 30 = .ok (.dup, 1) := by decide +kernel
theorem dX4_restore_31 : decode cX4_restore 31 = .ok (.getfield 26, 3) := by decide +kernel
theorem dX4_restore_34 : decode cX4_restore 34 = .ok (.iconst 1, 1) := by decide +kernel
theorem dX4_restore_35 : decode cX4_restore 35 = .ok (.isub, 1) := by decide +kernel
theorem dX4_restore_36 : decode cX4_restore 36 = .ok (.putfield 26, 3) := by decide +kernel
theorem dX4_restore_39 : decode cX4_restore 39 = .ok (.aload_n 1, 1) := by decide +kernel
theorem dX4_restore_40 : decode cX4_restore 40 = .ok (.aload_n 0, 1) := by decide +kernel
theorem dX4_restore_41 : decode cX4_restore 41 = .ok (.getfield 11, 3) := by decide +kernel
theorem dX4_restore_44 : decode cX4_restore 44 = .ok (.aload_n 0, 1) := by decide +kernel
theorem dX4_restore_45 : decode cX4_restore 45 = .ok (.getfield 18, 3) := by decide +kernel
theorem dX4_restore_48 : decode cX4_restore 48 = .ok (.aaload, 1) := by decide +kernel
theorem dX4_restore_49 : decode cX4_restore 49 = .ok (.invokevirtual 22, 3) := by decide +kernel
theorem dX4_restore_52 : decode cX4_restore 52 = .ok (.return_, 1) := by decide +kernel
theorem dX4_forget_0 : decode cX4_forget 0 = .ok (.aload_n 0, 1) := by decide +kernel
theorem dX4_forget_1 : decode cX4_forget 1 = .ok (.iconst 0, 1) := by decide +kernel
theorem dX4_forget_2 : decode cX4_forget 2 = .ok (.putfield 26, 3) := by decide +kernel
theorem dX4_forget_5 : decode cX4_forget 5 = .ok (.return_, 1) := by decide +kernel
theorem dX5_init_0 : decode cX5_init 0 = .ok (.aload_n 0, 1) := by decide +kernel
theorem dX5_init_1 : decode cX5_init 1 = .ok (.invokespecial 3, 3) := by decide +kernel
theorem dX5_init_4 : decode cX5_init 4 = .ok (.aload_n 0, 1) := by decide +kernel
theorem dX5_init_5 : decode cX5_init 5 = .ok (.bipush 7, 2) := by decide +kernel
theorem dX5_init_7 : decode cX5_init 7 = .ok (.newarray .int, 2) := by decide +kernel
theorem dX5_init_9 : decode cX5_init 9 = .ok (.putfield 9, 3) := by decide +kernel
theorem dX5_init_12 : decode cX5_init 12 = .ok (.aload_n 0, 1) := by decide +kernel
theorem dX5_init_13 : decode cX5_init 13 = .ok (.iconst 5, 1) := by decide +kernel
theorem dX5_init_14 : decode cX5_init 14 = .ok (.newarray .int, 2) := by decide +kernel
theorem dX5_init_16 : decode cX5_init 16 = .ok (.putfield 15, 3) := by decide +kernel
theorem dX5_init_19 : decode cX5_init 19 = .ok (.aload_n 0, 1) := by decide +kernel
theorem dX5_init_20 : decode cX5_init 20 = .ok (.bipush 20, 2) := by decide +kernel
theorem dX5_init_22 : decode cX5_init 22 = .ok (.newarray .int, 2) := by decide +kernel
theorem dX5_init_24 : decode cX5_init 24 = .ok (.putfield 18, 3) := by decide +kernel
theorem dX5_init_27 : decode cX5_init 27 = .ok (.return_, 1) := by decide +kernel
theorem dX5_begin_0 : decode cX5_begin 0 = .ok (.aload_n 0, 1) := by decide +kernel
theorem dX5_begin_1 : decode cX5_begin 1 = .ok (.iconst 0, 1) := by decide +kernel
theorem dX5_begin_2 : decode cX5_begin 2 = .ok (.putfield 21, 3) := by decide +kernel
theorem dX5_begin_5 : decode cX5_begin 5 = .ok (.aload_n 0, 1) := by decide +kernel
theorem dX5_begin_6 : decode cX5_begin 6 = .ok (.iconst 0, 1) := by decide +kernel
theorem dX5_begin_7 : decode cX5_begin 7 = .ok (.putfield 25, 3) := by decide +kernel
theorem dX5_begin_10 : decode cX5_begin 10 = .ok (.aload_n 0, 1) := by decide +kernel
theorem dX5_begin_11 : decode cX5_begin 11 = .ok (.iconst 0, 1) := by decide +kernel
theorem dX5_begin_12 : decode cX5_begin 12 = .ok (.putfield 28, 3) := by decide +kernel
theorem dX5_begin_15 : decode cX5_begin 15 = .ok (.aload_n 0, 1) := by decide +kernel
theorem dX5_begin_16 : decode cX5_begin 16 = .ok (.aload_n 1, 1) := by decide +kernel
theorem dX5_begin_17 : decode cX5_begin 17 = .ok (.getfield 31, 3) := by decide +kernel
theorem dX5_begin_20 : decode cX5_begin 20 = .ok (.putfield 36, 3) := by decide +kernel
theorem dX5_begin_23 : decode cX5_begin 23 = .ok (.aload_n 0, 1) := by decide +kernel
theorem dX5_begin_24 : decode cX5_begin 24 = .ok (.aload_n 1, 1) := by decide +kernel
theorem dX5_begin_25 : decode cX5_begin 25 = .ok (.getfield 39, 3) := by decide +kernel
theorem dX5_begin_28 : decode cX5_begin 28 = .ok (.putfield 42, 3) := by decide +kernel
theorem dX5_begin_31 : decode cX5_begin 31 = .ok (.aload_n 0, 1) := by decide +kernel
theorem dX5_begin_32 : decode cX5_begin 32 = .ok (.iconst 0, 1) := by decide +kernel
theorem dX5_begin_33 : decode cX5_begin 33 = .ok (.putfield 45, 3) := by decide +kernel
theorem dX5_begin_36 : decode cX5_begin 36 = .ok (.aload_n 0, 1) := by decide +kernel
theorem dX5_begin_37 : decode cX5_begin 37 = .ok (.getfield 9, 3) := by decide +kernel
theorem dX5_begin_40 : decode cX5_begin 40 = .ok (.iconst (-1), 1) := by decide +kernel
theorem dX5_begin_41 : decode cX5_begin 41 = .ok (.invokestatic 48, 3) := by decide +kernel
theorem dX5_begin_44 : decode cX5_begin 44 = .ok (.aload_n 0, 1) := by decide +kernel
theorem dX5_begin_45 : decode cX5_begin 45 = .ok (.getfield 15, 3) := by decide +kernel
theorem dX5_begin_48 : decode cX5_begin 48 = .ok (.iconst 0, 1) := by decide +kernel
theorem dX5_begin_49 : decode cX5_begin 49 = .ok (.invokestatic 48, 3) := by decide +kernel
theorem dX5_begin_52 : decode cX5_begin 52 = .ok (.return_, 1) := by decide +kernel
theorem dX5_copyFrom_0 : decode cX5_copyFrom 0 = .ok (.aload_n 0, 1) := by decide +kernel
theorem dX5_copyFrom_1 : decode cX5_copyFrom 1 = .ok (.aload_n 1, 1) := by decide +kernel
theorem dX5_copyFrom_2 : decode cX5_copyFrom 2 = .ok (.getfield 21, 3) := by decide +kernel
theorem dX5_copyFrom_5 : decode cX5_copyFrom 5 = .ok (.putfield 21, 3) := by decide +kernel
theorem dX5_copyFrom_8 : decode cX5_copyFrom 8 = .ok (.aload_n 0, 1) := by decide +kernel
theorem dX5_copyFrom_9 : decode cX5_copyFrom 9 = .ok (.aload_n 1, 1) := by decide +kernel
theorem dX5_copyFrom_10 : decode cX5_copyFrom 10 = .ok (.getfield 25, 3) := by decide +kernel
theorem dX5_copyFrom_13 : decode cX5_copyFrom 13 = .ok (.putfield 25, 3) := by decide +kernel
theorem dX5_copyFrom_16 : decode cX5_copyFrom 16 = .ok (.aload_n 0, 1) := by decide +kernel
theorem dX5_copyFrom_17 : decode cX5_copyFrom 17 = .ok (.aload_n 1, 1) := by decide +kernel
theorem dX5_copyFrom_18 : decode cX5_copyFrom 18 = .ok (.getfield 28, 3) := by decide +kernel
theorem dX5_copyFrom_21 : decode cX5_copyFrom 21 = .ok (.putfield 28, 3) := by decide +kernel
theorem dX5_copyFrom_24 : decode cX5_copyFrom 24 = .ok (.aload_n 0, 1) := by decide +kernel
theorem dX5_copyFrom_25 : decode cX5_copyFrom 25 = .ok (.aload_n 1, 1) := by decide +kernel
theorem dX5_copyFrom_26 : decode cX5_copyFrom 26 = .ok (.getfield 36, 3) := by decide +kernel
theorem dX5_copyFrom_29 : decode cX5_copyFrom 29 = .ok (.putfield 36, 3) := by decide +kernel
theorem dX5_copyFrom_32 : decode cX5_copyFrom 32 = .ok (.aload_n 0, 1) := by decide +kernel
theorem dX5_copyFrom_33 : decode cX5_copyFrom 33 = .ok (.aload_n 1, 1) := by decide +kernel
theorem dX5_copyFrom_34 : decode cX5_copyFrom 34 = .ok (.getfield 42, 3) := by decide +kernel
theorem dX5_copyFrom_37 : decode cX5_copyFrom 37 = .ok (.putfield 42, 3) := by decide +kernel
theorem dX5_copyFrom_40 : decode cX5_copyFrom 40 = .ok (.aload_n 0, 1) := by decide +kernel
theorem dX5_copyFrom_41 : decode cX5_copyFrom 41 = .ok (.aload_n 1, 1) := by decide +kernel
theorem dX5_copyFrom_42 : decode cX5_copyFrom 42 = .ok (.getfield 45, 3) := by decide +kernel
theorem dX5_copyFrom_45 : decode cX5_copyFrom 45 = .ok (.putfield 45, 3) := by decide +kernel
theorem dX5_copyFrom_48 : decode cX5_copyFrom 48 = .ok (.aload_n 1, 1) := by decide +kernel
theorem dX5_copyFrom_49 : decode cX5_copyFrom 49 = .ok (.getfield 9, 3) := by decide +kernel
theorem dX5_copyFrom_52 : decode cX5_copyFrom 52 = .ok (.iconst 0, 1) := by decide +kernel
theorem dX5_copyFrom_53 : decode cX5_copyFrom 53 = .ok (.aload_n 0, 1) := by decide +kernel
theorem dX5_copyFrom_54 : decode cX5_copyFrom 54 = .ok (.getfield 9, 3) := by decide +kernel
theorem dX5_copyFrom_57 : decode cX5_copyFrom 57 = .ok (.iconst 0, 1) := by decide +kernel
theorem dX5_copyFrom_58 : decode cX5_copyFrom 58 = .ok (.bipush 7, 2) := by decide +kernel
theorem dX5_copyFrom_60 : decode cX5_copyFrom 60 = .ok (.invokestatic 54, 3) := by decide +kernel
theorem dX5_copyFrom_63 : decode cX5_copyFrom 63 = .ok (.aload_n 1, 1) := by decide +kernel
theorem dX5_copyFrom_64 : decode cX5_copyFrom 64 = .ok (.getfield 15, 3) := by decide +kernel
theorem dX5_copyFrom_67 : decode cX5_copyFrom 67 = .ok (.iconst 0, 1) := by decide +kernel
theorem dX5_copyFrom_68 : decode cX5_copyFrom 68 = .ok (.aload_n 0, 1) := by decide +kernel
theorem dX5_copyFrom_69 : decode cX5_copyFrom 69 = .ok (.getfield 15, 3) := by decide +kernel
theorem dX5_copyFrom_72 : decode cX5_copyFrom 72 = .ok (.iconst 0, 1) := by decide +kernel
theorem dX5_copyFrom_73 : decode cX5_copyFrom 73 = .ok (.iconst 5, 1) := by decide +kernel
theorem dX5_copyFrom_74 : decode cX5_copyFrom 74 = .ok (.invokestatic 54, 3) := by decide +kernel
theorem dX5_copyFrom_77 : decode cX5_copyFrom 77 = .ok (.aload_n 1, 1) := by decide +kernel
theorem dX5_copyFrom_78 : decode cX5_copyFrom 78 = .ok (.getfield 18, 3) := by decide +kernel
theorem dX5_copyFrom_81 : decode cX5_copyFrom 81 = .ok (.iconst 0, 1) := by decide +kernel
theorem dX5_copyFrom_82 : decode cX5_copyFrom 82 = .ok (.aload_n 0, 1) := by decide +kernel
theorem dX5_copyFrom_83 : decode cX5_copyFrom 83 = .ok (.getfield 18, 3) := by decide +kernel
theorem dX5_copyFrom_86 : decode cX5_copyFrom 86 = .ok (.iconst 0, 1) := by decide +kernel
theorem dX5_copyFrom_87 : decode cX5_copyFrom 87 = .ok (.bipush 20, 2) := by decide +kernel
theorem dX5_copyFrom_89 : decode cX5_copyFrom 89 = .ok (.invokestatic 54, 3) := by decide +kernel
theorem dX5_copyFrom_92 : decode cX5_copyFrom 92 = .ok (.return_, 1) := by decide +kernel
theorem dX5_isRusted_0 : decode cX5_isRusted 0 = .ok (.aload_n 0, 1) := by decide +kernel
theorem dX5_isRusted_1 : decode cX5_isRusted 1 = .ok (.getfield 15, 3) := by decide +kernel
theorem dX5_isRusted_4 : decode cX5_isRusted 4 = .ok (.iload_n 2, 1) := by decide +kernel
theorem dX5_isRusted_5 : decode cX5_isRusted 5 = .ok (.iaload, 1) := by decide +kernel
theorem dX5_isRusted_6 : decode cX5_isRusted 6 = .ok (.aload_n 1, 1) := by decide +kernel
theorem dX5_isRusted_7 : decode cX5_isRusted 7 = .ok (.getfield 60, 3) := by decide +kernel
theorem dX5_isRusted_10 : decode cX5_isRusted 10 = .ok (.iload_n 2, 1) := by decide +kernel
theorem dX5_isRusted_11 : decode cX5_isRusted 11 = .ok (.iaload, 1) := by decide +kernel
theorem dX5_isRusted_12 : decode cX5_isRusted 12 = .ok (.if_icmp .lt 7, 3) := by decide +kernel
theorem dX5_isRusted_15 : decode cX5_isRusted 15 = .ok (.iconst 1, 1) := by decide +kernel
theorem dX5_isRusted_16 : decode cX5_isRusted 16 = .ok (.goto 4, 3) := by decide +kernel
theorem dX5_isRusted_19 : decode cX5_isRusted 19 = .ok (.iconst 0, 1) := by decide +kernel
theorem dX5_isRusted_20 : decode cX5_isRusted 20 = .ok (.ireturn, 1) := by decide +kernel
theorem dX5_rusted_0 : decode cX5_rusted 0 = .ok (.iconst 0, 1) := by decide +kernel
theorem dX5_rusted_1 : decode cX5_rusted 1 = .ok (.istore_n 2, 1) := by decide +kernel
theorem dX5_rusted_2 : decode cX5_rusted 2 = .ok (.iconst 0, 1) := by decide +kernel
theorem dX5_rusted_3 : decode cX5_rusted 3 = .ok (.istore_n 3, 1) := by decide +kernel
theorem dX5_rusted_4 : decode cX5_rusted 4 = .ok (.iload_n 3, 1) := by decide +kernel
theorem dX5_rusted_5 : decode cX5_rusted 5 = .ok (.aload_n 1, 1) := by decide +kernel
theorem dX5_rusted_6 : decode cX5_rusted 6 = .ok (.getfield 63, 3) := by decide +kernel
theorem dX5_rusted_9 : decode cX5_rusted 9 = .ok (.if_icmp .ge 24, 3) := by decide +kernel
theorem dX5_rusted_12 : decode cX5_rusted 12 = .ok (.aload_n 0, 1) := by decide +kernel
theorem dX5_rusted_13 : decode cX5_rusted 13 = .ok (.aload_n 1, 1) := by decide +kernel
theorem dX5_rusted_14 : decode cX5_rusted 14 = .ok (.iload_n 3, 1) := by decide +kernel
theorem dX5_rusted_15 : decode cX5_rusted 15 = .ok (.invokevirtual 66, 3) := by decide +kernel
theorem dX5_rusted_18 : decode cX5_rusted 18 = .ok (.ifCond .eq 9, 3) := by decide +kernel
theorem dX5_rusted_21 : decode cX5_rusted 21 = .ok (.iload_n 2, 1) := by decide +kernel
theorem dX5_rusted_22 : decode cX5_rusted 22 = .ok (.iconst 1, 1) := by decide +kernel
theorem dX5_rusted_23 : decode cX5_rusted 23 = .ok (.iload_n 3, 1) := by decide +kernel
theorem dX5_rusted_24 : decode cX5_rusted 24 = .ok (.ishl, 1) := by decide +kernel
theorem dX5_rusted_25 : decode cX5_rusted 25 = .ok (.ior, 1) := by decide +kernel
theorem dX5_rusted_26 : decode cX5_rusted 26 = .ok (.istore_n 2, 1) := by decide +kernel
theorem dX5_rusted_27 : decode cX5_rusted 27 = .ok (.iinc 3 1, 3) := by decide +kernel
theorem dX5_rusted_30 : decode cX5_rusted 30 = .ok (.goto (-26), 3) := by decide +kernel
theorem dX5_rusted_33 : decode cX5_rusted 33 = .ok (.iload_n 2, 1) := by decide +kernel
theorem dX5_rusted_34 : decode cX5_rusted 34 = .ok (.ireturn, 1) := by decide +kernel
theorem dX5_waitingAt_0 : decode cX5_waitingAt 0 = .ok (.iconst 0, 1) := by decide +kernel
theorem dX5_waitingAt_1 : decode cX5_waitingAt 1 = .ok (.istore_n 3, 1) := by decide +kernel
theorem dX5_waitingAt_2 : decode cX5_waitingAt 2 = .ok (.iconst 0, 1) := by decide +kernel
theorem dX5_waitingAt_3 : decode cX5_waitingAt 3 = .ok (.istore 4, 2) := by decide +kernel
theorem dX5_waitingAt_5 : decode cX5_waitingAt 5 = .ok (.iload 4, 2) := by decide +kernel
theorem dX5_waitingAt_7 : decode cX5_waitingAt 7 = .ok (.aload_n 1, 1) := by decide +kernel
theorem dX5_waitingAt_8 : decode cX5_waitingAt 8 = .ok (.getfield 70, 3) := by decide +kernel
theorem dX5_waitingAt_11 : decode cX5_waitingAt 11 = .ok (.if_icmp .ge 27, 3) := by decide +kernel
theorem dX5_waitingAt_14 : decode cX5_waitingAt 14 = .ok (.aload_n 0, 1) := by decide +kernel
theorem dX5_waitingAt_15 : decode cX5_waitingAt 15 = .ok (.getfield 9, 3) := by decide +kernel
theorem dX5_waitingAt_18 : decode cX5_waitingAt 18 = .ok (.iload 4, 2) := by decide +kernel
theorem dX5_waitingAt_20 : decode cX5_waitingAt 20 = .ok (.iaload, 1) := by decide +kernel
theorem dX5_waitingAt_21 : decode cX5_waitingAt 21 = .ok (.iload_n 2, 1) := by decide +kernel
theorem dX5_waitingAt_22 : decode cX5_waitingAt 22 = .ok (.if_icmp .ne 10, 3) := by decide +kernel
theorem dX5_waitingAt_25 : decode cX5_waitingAt 25 = .ok (.iload_n 3, 1) := by decide +kernel
theorem dX5_waitingAt_26 : decode cX5_waitingAt 26 = .ok (.iconst 1, 1) := by decide +kernel
theorem dX5_waitingAt_27 : decode cX5_waitingAt 27 = .ok (.iload 4, 2) := by decide +kernel
theorem dX5_waitingAt_29 : decode cX5_waitingAt 29 = .ok (.ishl, 1) := by decide +kernel
theorem dX5_waitingAt_30 : decode cX5_waitingAt 30 = .ok (.ior, 1) := by decide +kernel
theorem dX5_waitingAt_31 : decode cX5_waitingAt 31 = .ok (.istore_n 3, 1) := by decide +kernel
theorem dX5_waitingAt_32 : decode cX5_waitingAt 32 = .ok (.iinc 4 1, 3) := by decide +kernel
theorem dX5_waitingAt_35 : decode cX5_waitingAt 35 = .ok (.goto (-30), 3) := by decide +kernel
theorem dX5_waitingAt_38 : decode cX5_waitingAt 38 = .ok (.iload_n 3, 1) := by decide +kernel
theorem dX5_waitingAt_39 : decode cX5_waitingAt 39 = .ok (.ireturn, 1) := by decide +kernel
theorem dX5_waiting_0 : decode cX5_waiting 0 = .ok (.iconst 0, 1) := by decide +kernel
theorem dX5_waiting_1 : decode cX5_waiting 1 = .ok (.istore_n 2, 1) := by decide +kernel
theorem dX5_waiting_2 : decode cX5_waiting 2 = .ok (.iconst 0, 1) := by decide +kernel
theorem dX5_waiting_3 : decode cX5_waiting 3 = .ok (.istore_n 3, 1) := by decide +kernel
theorem dX5_waiting_4 : decode cX5_waiting 4 = .ok (.iload_n 3, 1) := by decide +kernel
theorem dX5_waiting_5 : decode cX5_waiting 5 = .ok (.aload_n 1, 1) := by decide +kernel
theorem dX5_waiting_6 : decode cX5_waiting 6 = .ok (.getfield 70, 3) := by decide +kernel
theorem dX5_waiting_9 : decode cX5_waiting 9 = .ok (.if_icmp .ge 25, 3) := by decide +kernel
theorem dX5_waiting_12 : decode cX5_waiting 12 = .ok (.aload_n 0, 1) := by decide +kernel
theorem dX5_waiting_13 : decode cX5_waiting 13 = .ok (.getfield 9, 3) := by decide +kernel
theorem dX5_waiting_16 : decode cX5_waiting 16 = .ok (.iload_n 3, 1) := by decide +kernel
theorem dX5_waiting_17 : decode cX5_waiting 17 = .ok (.iaload, 1) := by decide +kernel
theorem dX5_waiting_18 : decode cX5_waiting 18 = .ok (.iconst (-1), 1) := by decide +kernel
theorem dX5_waiting_19 : decode cX5_waiting 19 = .ok (.if_icmp .eq 9, 3) := by decide +kernel
theorem dX5_waiting_22 : decode cX5_waiting 22 = .ok (.iload_n 2, 1) := by decide +kernel
theorem dX5_waiting_23 : decode cX5_waiting 23 = .ok (.iconst 1, 1) := by decide +kernel
theorem dX5_waiting_24 : decode cX5_waiting 24 = .ok (.iload_n 3, 1) := by decide +kernel
theorem dX5_waiting_25 : decode cX5_waiting 25 = .ok (.ishl, 1) := by decide +kernel
theorem dX5_waiting_26 : decode cX5_waiting 26 = .ok (.ior, 1) := by decide +kernel
theorem dX5_waiting_27 : decode cX5_waiting 27 = .ok (.istore_n 2, 1) := by decide +kernel
theorem dX5_waiting_28 : decode cX5_waiting 28 = .ok (.iinc 3 1, 3) := by decide +kernel
theorem dX5_waiting_31 : decode cX5_waiting 31 = .ok (.goto (-27), 3) := by decide +kernel
theorem dX5_waiting_34 : decode cX5_waiting 34 = .ok (.iload_n 2, 1) := by decide +kernel
theorem dX5_waiting_35 : decode cX5_waiting 35 = .ok (.ireturn, 1) := by decide +kernel
theorem dX5_passHour_0 : decode cX5_passHour 0 = .ok (.iconst 0, 1) := by decide +kernel
theorem dX5_passHour_1 : decode cX5_passHour 1 = .ok (.istore_n 2, 1) := by decide +kernel
theorem dX5_passHour_2 : decode cX5_passHour 2 = .ok (.iload_n 2, 1) := by decide +kernel
theorem dX5_passHour_3 : decode cX5_passHour 3 = .ok (.aload_n 1, 1) := by decide +kernel
theorem dX5_passHour_4 : decode cX5_passHour 4 = .ok (.getfield 63, 3) := by decide +kernel
theorem dX5_passHour_7 : decode cX5_passHour 7 = .ok (.if_icmp .ge 45, 3) := by decide +kernel
theorem dX5_passHour_10 : decode cX5_passHour 10 = .ok (.aload_n 0, 1) := by decide +kernel
theorem dX5_passHour_11 : decode cX5_passHour 11 = .ok (.aload_n 1, 1) := by decide +kernel
theorem dX5_passHour_12 : decode cX5_passHour 12 = .ok (.iload_n 2, 1) := by decide +kernel
theorem dX5_passHour_13 : decode cX5_passHour 13 = .ok (.invokevirtual 66, 3) := by decide +kernel
theorem dX5_passHour_16 : decode cX5_passHour 16 = .ok (.ifCond .ne 30, 3) := by decide +kernel
theorem dX5_passHour_19 : decode cX5_passHour 19 = .ok (.aload_n 0, 1) := by decide +kernel
theorem dX5_passHour_20 : decode cX5_passHour 20 = .ok (.getfield 15, 3) := by decide +kernel
theorem dX5_passHour_23 : decode cX5_passHour 23 = .ok (.iload_n 2, 1) := by decide +kernel
theorem dX5_passHour_24 : decode cX5_passHour 24 = .ok (.aload_n 0, 1) := by decide +kernel
theorem dX5_passHour_25 : decode cX5_passHour 25 = .ok (.aload_n 1, 1) := by decide +kernel
theorem dX5_passHour_26 : decode cX5_passHour 26 = .ok (.iload_n 2, 1) := by decide +kernel
theorem dX5_passHour_27 : decode cX5_passHour 27 = .ok (.invokevirtual 73, 3) := by decide +kernel
theorem dX5_passHour_30 : decode cX5_passHour 30 = .ok (.ifCond .eq 7, 3) := by decide +kernel
theorem dX5_passHour_33 : decode cX5_passHour 33 = .ok (.iconst 0, 1) := by decide +kernel
theorem dX5_passHour_34 : decode cX5_passHour 34 = .ok (.goto 11, 3) := by decide +kernel
theorem dX5_passHour_37 : decode cX5_passHour 37 = .ok (.aload_n 0, 1) := by decide +kernel
theorem dX5_passHour_38 : decode cX5_passHour 38 = .ok (.getfield 15, 3) := by decide +kernel
theorem dX5_passHour_41 : decode cX5_passHour 41 = .ok (.iload_n 2, 1) := by decide +kernel
theorem dX5_passHour_42 : decode cX5_passHour 42 = .ok (.iaload, 1) := by decide +kernel
theorem dX5_passHour_43 : decode cX5_passHour 43 = .ok (.iconst 1, 1) := by decide +kernel
theorem dX5_passHour_44 : decode cX5_passHour 44 = .ok (.iadd, 1) := by decide +kernel
theorem dX5_passHour_45 : decode cX5_passHour 45 = .ok (.iastore, 1) := by decide +kernel
theorem dX5_passHour_46 : decode cX5_passHour 46 = .ok (.iinc 2 1, 3) := by decide +kernel
theorem dX5_passHour_49 : decode cX5_passHour 49 = .ok (.goto (-47), 3) := by decide +kernel
theorem dX5_passHour_52 : decode cX5_passHour 52 = .ok (.aload_n 0, 1) := by decide +kernel
theorem dX5_passHour_53 : decode cX5_passHour 53 = .ok (.dup, 1) := by decide +kernel
theorem dX5_passHour_54 : decode cX5_passHour 54 = .ok (.getfield 21, 3) := by decide +kernel
theorem dX5_passHour_57 : decode cX5_passHour 57 = .ok (.iconst 1, 1) := by decide +kernel
theorem dX5_passHour_58 : decode cX5_passHour 58 = .ok (.iadd, 1) := by decide +kernel
theorem dX5_passHour_59 : decode cX5_passHour 59 = .ok (.putfield 21, 3) := by decide +kernel
theorem dX5_passHour_62 : decode cX5_passHour 62 = .ok (.return_, 1) := by decide +kernel
theorem dX5_meetAt_0 : decode cX5_meetAt 0 = .ok (.aload_n 0, 1) := by decide +kernel
theorem dX5_meetAt_1 : decode cX5_meetAt 1 = .ok (.aload_n 1, 1) := by decide +kernel
theorem dX5_meetAt_2 : decode cX5_meetAt 2 = .ok (.iload_n 2, 1) := by decide +kernel
theorem dX5_meetAt_3 : decode cX5_meetAt 3 = .ok (.invokevirtual 76, 3) := by decide +kernel
theorem dX5_meetAt_6 : decode cX5_meetAt 6 = .ok (.istore_n 3, 1) := by decide +kernel
theorem dX5_meetAt_7 : decode cX5_meetAt 7 = .ok (.iconst (-1), 1) := by decide +kernel
theorem dX5_meetAt_8 : decode cX5_meetAt 8 = .ok (.istore 4, 2) := by decide +kernel
theorem dX5_meetAt_10 : decode cX5_meetAt 10 = .ok (.iconst (-1), 1) := by decide +kernel
theorem dX5_meetAt_11 : decode cX5_meetAt 11 = .ok (.istore 5, 2) := by decide +kernel
theorem dX5_meetAt_13 : decode cX5_meetAt 13 = .ok (.iconst 0, 1) := by decide +kernel
theorem dX5_meetAt_14 : decode cX5_meetAt 14 = .ok (.istore 6, 2) := by decide +kernel
theorem dX5_meetAt_16 : decode cX5_meetAt 16 = .ok (.iconst 0, 1) := by decide +kernel
theorem dX5_meetAt_17 : decode cX5_meetAt 17 = .ok (.istore 7, 2) := by decide +kernel
theorem dX5_meetAt_19 : decode cX5_meetAt 19 = .ok (.iload 7, 2) := by decide +kernel
theorem dX5_meetAt_21 : decode cX5_meetAt 21 = .ok (.aload_n 1, 1) := by decide +kernel
theorem dX5_meetAt_22 : decode cX5_meetAt 22 = .ok (.getfield 70, 3) := by decide +kernel
theorem dX5_meetAt_25 : decode cX5_meetAt 25 = .ok (.if_icmp .ge 100, 3) := by decide +kernel
theorem dX5_meetAt_28 : decode cX5_meetAt 28 = .ok (.iload_n 3, 1) := by decide +kernel
theorem dX5_meetAt_29 : decode cX5_meetAt 29 = .ok (.iload 7, 2) := by decide +kernel
theorem dX5_meetAt_31 : decode cX5_meetAt 31 = .ok (.ishr, 1) := by decide +kernel
theorem dX5_meetAt_32 : decode cX5_meetAt 32 = .ok (.iconst 1, 1) := by decide +kernel
theorem dX5_meetAt_33 : decode cX5_meetAt 33 = .ok (.iand, 1) := by decide +kernel
theorem dX5_meetAt_34 : decode cX5_meetAt 34 = .ok (.iconst 1, 1) := by decide +kernel
theorem dX5_meetAt_35 : decode cX5_meetAt 35 = .ok (.if_icmp .ne 18, 3) := by decide +kernel
theorem dX5_meetAt_38 : decode cX5_meetAt 38 = .ok (.iload_n 3, 1) := by decide +kernel
theorem dX5_meetAt_39 : decode cX5_meetAt 39 = .ok (.aload_n 1, 1) := by decide +kernel
theorem dX5_meetAt_40 : decode cX5_meetAt 40 = .ok (.iload 7, 2) := by decide +kernel
theorem dX5_meetAt_42 : decode cX5_meetAt 42 = .ok (.aload_n 0, 1) := by decide +kernel
theorem dX5_meetAt_43 : decode cX5_meetAt 43 = .ok (.getfield 36, 3) := by decide +kernel
theorem dX5_meetAt_46 : decode cX5_meetAt 46 = .ok (.invokevirtual 80, 3) := by decide +kernel
theorem dX5_meetAt_49 : decode cX5_meetAt 49 = .ok (.iand, 1) := by decide +kernel
theorem dX5_meetAt_50 : decode cX5_meetAt 50 = .ok (.goto 4, 3) := by decide +kernel
theorem dX5_meetAt_53 : decode cX5_meetAt 53 = .ok (.iconst 0, 1) := by decide +kernel
theorem dX5_meetAt_54 : decode cX5_meetAt 54 = .ok (.istore 8, 2) := by decide +kernel
theorem dX5_meetAt_56 : decode cX5_meetAt 56 = .ok (.iload 7, 2) := by decide +kernel
theorem dX5_meetAt_58 : decode cX5_meetAt 58 = .ok (.iconst 1, 1) := by decide +kernel
theorem dX5_meetAt_59 : decode cX5_meetAt 59 = .ok (.iadd, 1) := by decide +kernel
theorem dX5_meetAt_60 : decode cX5_meetAt 60 = .ok (.istore 9, 2) := by decide +kernel
theorem dX5_meetAt_62 : decode cX5_meetAt 62 = .ok (.iload 9, 2) := by decide +kernel
theorem dX5_meetAt_64 : decode cX5_meetAt 64 = .ok (.aload_n 1, 1) := by decide +kernel
theorem dX5_meetAt_65 : decode cX5_meetAt 65 = .ok (.getfield 70, 3) := by decide +kernel
theorem dX5_meetAt_68 : decode cX5_meetAt 68 = .ok (.if_icmp .ge 51, 3) := by decide +kernel
theorem dX5_meetAt_71 : decode cX5_meetAt 71 = .ok (.iload 8, 2) := by decide +kernel
theorem dX5_meetAt_73 : decode cX5_meetAt 73 = .ok (.iload 9, 2) := by decide +kernel
theorem dX5_meetAt_75 : decode cX5_meetAt 75 = .ok (.ishr, 1) := by decide +kernel
theorem dX5_meetAt_76 : decode cX5_meetAt 76 = .ok (.iconst 1, 1) := by decide +kernel
theorem dX5_meetAt_77 : decode cX5_meetAt 77 = .ok (.iand, 1) := by decide +kernel
theorem dX5_meetAt_78 : decode cX5_meetAt 78 = .ok (.iconst 1, 1) := by decide +kernel
theorem dX5_meetAt_79 : decode cX5_meetAt 79 = .ok (.if_icmp .ne 34, 3) := by decide +kernel
theorem dX5_meetAt_82 : decode cX5_meetAt 82 = .ok (.aload_n 1, 1) := by decide +kernel
theorem dX5_meetAt_83 : decode cX5_meetAt 83 = .ok (.iload 7, 2) := by decide +kernel
theorem dX5_meetAt_85 : decode cX5_meetAt 85 = .ok (.iload 9, 2) := by decide +kernel
theorem dX5_meetAt_87 : decode cX5_meetAt 87 = .ok (.invokevirtual 84, 3) := by decide +kernel
theorem dX5_meetAt_90 : decode cX5_meetAt 90 = .ok (.iload 6, 2) := by decide +kernel
theorem dX5_meetAt_92 : decode cX5_meetAt 92 = .ok (.if_icmp .le 21, 3) := by decide +kernel
theorem dX5_meetAt_95 : decode cX5_meetAt 95 = .ok (.iload 7, 2) := by decide +kernel
theorem dX5_meetAt_97 : decode cX5_meetAt 97 = .ok (.istore 4, 2) := by decide +kernel
theorem dX5_meetAt_99 : decode cX5_meetAt 99 = .ok (.iload 9, 2) := by decide +kernel
theorem dX5_meetAt_101 : decode cX5_meetAt 101 = .ok (.istore 5, 2) := by decide +kernel
theorem dX5_meetAt_103 : decode cX5_meetAt 103 = .ok (.aload_n 1, 1) := by decide +kernel
theorem dX5_meetAt_104 : decode cX5_meetAt 104 = .ok (.iload 7, 2) := by decide +kernel
theorem dX5_meetAt_106 : decode cX5_meetAt 106 = .ok (.iload 9, 2) := by decide +kernel
theorem dX5_meetAt_108 : decode cX5_meetAt 108 = .ok (.invokevirtual 84, 3) := by decide +kernel
theorem dX5_meetAt_111 : decode cX5_meetAt 111 = .ok (.istore 6, 2) := by decide +kernel
theorem dX5_meetAt_113 : decode cX5_meetAt 113 = .ok (.iinc 9 1, 3) := by decide +kernel
theorem dX5_meetAt_116 : decode cX5_meetAt 116 = .ok (.goto (-54), 3) := by decide +kernel
theorem dX5_meetAt_119 : decode cX5_meetAt 119 = .ok (.iinc 7 1, 3) := by decide +kernel
theorem dX5_meetAt_122 : decode cX5_meetAt 122 = .ok (.goto (-103), 3) := by decide +kernel
theorem dX5_meetAt_125 : decode cX5_meetAt 125 = .ok (.iload 4, 2) := by decide +kernel
theorem dX5_meetAt_127 : decode cX5_meetAt 127 = .ok (.iconst (-1), 1) := by decide +kernel
theorem dX5_meetAt_128 : decode cX5_meetAt 128 = .ok (.if_icmp .eq 9, 3) := by decide +kernel
theorem dX5_meetAt_131 : decode cX5_meetAt 131 = .ok (.iload 5, 2) := by decide +kernel
theorem dX5_meetAt_133 : decode cX5_meetAt 133 = .ok (.iconst (-1), 1) := by decide +kernel
theorem dX5_meetAt_134 : decode cX5_meetAt 134 = .ok (.if_icmp .ne 5, 3) := by decide +kernel
theorem dX5_meetAt_137 : decode cX5_meetAt 137 = .ok (.iconst 0, 1) := by decide +kernel
theorem dX5_meetAt_138 : decode cX5_meetAt 138 = .ok (.ireturn, 1) := by decide +kernel
theorem dX5_meetAt_139 : decode cX5_meetAt 139 = .ok (.aload_n 0, 1) := by decide +kernel
theorem dX5_meetAt_140 : decode cX5_meetAt 140 = .ok (.iload 4, 2) := by decide +kernel
theorem dX5_meetAt_142 : decode cX5_meetAt 142 = .ok (.iload 5, 2) := by decide +kernel
theorem dX5_meetAt_144 : decode cX5_meetAt 144 = .ok (.invokevirtual 87, 3) := by decide +kernel
theorem dX5_meetAt_147 : decode cX5_meetAt 147 = .ok (.iconst 1, 1) := by decide +kernel
theorem dX5_meetAt_148 : decode cX5_meetAt 148 = .ok (.ireturn, 1) := by decide +kernel
theorem dX5_meet_0 : decode cX5_meet 0 = .ok (.iconst 1, 1) := by decide +kernel
theorem dX5_meet_1 : decode cX5_meet 1 = .ok (.iload_n 1, 1) := by decide +kernel
theorem dX5_meet_2 : decode cX5_meet 2 = .ok (.ishl, 1) := by decide +kernel
theorem dX5_meet_3 : decode cX5_meet 3 = .ok (.iconst 1, 1) := by decide +kernel
theorem dX5_meet_4 : decode cX5_meet 4 = .ok (.iload_n 2, 1) := by decide +kernel
theorem dX5_meet_5 : decode cX5_meet 5 = .ok (.ishl, 1) := by decide +kernel
theorem dX5_meet_6 : decode cX5_meet 6 = .ok (.ior, 1) := by decide +kernel
theorem dX5_meet_7 : decode cX5_meet 7 = .ok (.istore_n 3, 1) := by decide +kernel
theorem dX5_meet_8 : decode cX5_meet 8 = .ok (.aload_n 0, 1) := by decide +kernel
theorem dX5_meet_9 : decode cX5_meet 9 = .ok (.dup, 1) := by decide +kernel
theorem dX5_meet_10 : decode cX5_meet 10 = .ok (.getfield 36, 3) := by decide +kernel
theorem dX5_meet_13 : decode cX5_meet 13 = .ok (.iload_n 3, 1) := by decide +kernel
theorem dX5_meet_14 : decode cX5_meet 14 = .ok (.ixor, 1) := by decide +kernel
theorem dX5_meet_15 : decode cX5_meet 15 = .ok (.putfield 36, 3) := by decide +kernel
theorem dX5_meet_18 : decode cX5_meet 18 = .ok (.aload_n 0, 1) := by decide +kernel
theorem dX5_meet_19 : decode cX5_meet 19 = .ok (.getfield 42, 3) := by decide +kernel
theorem dX5_meet_22 : decode cX5_meet 22 = .ok (.iload_n 3, 1) := by decide +kernel
theorem dX5_meet_23 : decode cX5_meet 23 = .ok (.iand, 1) := by decide +kernel
theorem dX5_meet_24 : decode cX5_meet 24 = .ok (.ifCond .eq 13, 3) := by decide +kernel
theorem dX5_meet_27 : decode cX5_meet 27 = .ok (.aload_n 0, 1) := by decide +kernel
theorem dX5_meet_28 : decode cX5_meet 28 = .ok (.dup, 1) := by decide +kernel
theorem dX5_meet_29 : decode cX5_meet 29 = .ok (.getfield 42, 3) := by decide +kernel
theorem dX5_meet_32 : decode cX5_meet 32 = .ok (.iload_n 3, 1) := by decide +kernel
theorem dX5_meet_33 : decode cX5_meet 33 = .ok (.ior, 1) := by decide +kernel
theorem dX5_meet_34 : decode cX5_meet 34 = .ok (.putfield 42, 3) := by decide +kernel
theorem dX5_meet_37 : decode cX5_meet 37 = .ok (.aload_n 0, 1) := by decide +kernel
theorem dX5_meet_38 : decode cX5_meet 38 = .ok (.getfield 9, 3) := by decide +kernel
theorem dX5_meet_41 : decode cX5_meet 41 = .ok (.iload_n 1, 1) := by decide +kernel
theorem dX5_meet_42 : decode cX5_meet 42 = .ok (.iconst (-1), 1) := by decide +kernel
theorem dX5_meet_43 : decode cX5_meet 43 = .ok (.iastore, 1) := by decide +kernel
theorem dX5_meet_44 : decode cX5_meet 44 = .ok (.aload_n 0, 1) := by decide +kernel
theorem dX5_meet_45 : decode cX5_meet 45 = .ok (.getfield 9, 3) := by decide +kernel
theorem dX5_meet_48 : decode cX5_meet 48 = .ok (.iload_n 2, 1) := by decide +kernel
theorem dX5_meet_49 : decode cX5_meet 49 = .ok (.iconst (-1), 1) := by decide +kernel
theorem dX5_meet_50 : decode cX5_meet 50 = .ok (.iastore, 1) := by decide +kernel
theorem dX5_meet_51 : decode cX5_meet 51 = .ok (.aload_n 0, 1) := by decide +kernel
theorem dX5_meet_52 : decode cX5_meet 52 = .ok (.dup, 1) := by decide +kernel
theorem dX5_meet_53 : decode cX5_meet 53 = .ok (.getfield 25, 3) := by decide +kernel
theorem dX5_meet_56 : decode cX5_meet 56 = .ok (.iconst 1, 1) := by decide +kernel
theorem dX5_meet_57 : decode cX5_meet 57 = .ok (.iadd, 1) := by decide +kernel
theorem dX5_meet_58 : decode cX5_meet 58 = .ok (.putfield 25, 3) := by decide +kernel
theorem dX5_meet_61 : decode cX5_meet 61 = .ok (.aload_n 0, 1) := by decide +kernel
theorem dX5_meet_62 : decode cX5_meet 62 = .ok (.getfield 45, 3) := by decide +kernel
theorem dX5_meet_65 : decode cX5_meet 65 = .ok (.bipush 20, 2) := by decide +kernel
theorem dX5_meet_67 : decode cX5_meet 67 = .ok (.if_icmp .lt 24, 3) := by decide +kernel
theorem dX5_meet_70 : decode cX5_meet 70 = .ok (.aload_n 0, 1) := by decide +kernel
theorem dX5_meet_71 : decode cX5_meet 71 = .ok (.getfield 18, 3) := by decide +kernel
theorem dX5_meet_74 : decode cX5_meet 74 = .ok (.iconst 1, 1) := by decide +kernel
theorem dX5_meet_75 : decode cX5_meet 75 = .ok (.aload_n 0, 1) := by decide +kernel
theorem dX5_meet_76 : decode cX5_meet 76 = .ok (.getfield 18, 3) := by decide +kernel
theorem dX5_meet_79 : decode cX5_meet 79 = .ok (.iconst 0, 1) := by decide +kernel
theorem dX5_meet_80 : decode cX5_meet 80 = .ok (.bipush 19, 2) := by decide +kernel
theorem dX5_meet_82 : decode cX5_meet 82 = .ok (.invokestatic 54, 3) := by decide +kernel
theorem dX5_meet_85 : decode cX5_meet 85 = .ok (.aload_n 0, 1) := by decide +kernel
theorem dX5_meet_86 : decode cX5_meet 86 = .ok (.bipush 19, 2) := by decide +kernel
theorem dX5_meet_88 : decode cX5_meet 88 = .ok (.putfield 45, 3) := by decide +kernel
theorem dX5_meet_91 : decode cX5_meet 91 = .ok (.aload_n 0, 1) := by decide +kernel
theorem dX5_meet_92 : decode cX5_meet 92 = .ok (.getfield 18, 3) := by decide +kernel
theorem dX5_meet_95 : decode cX5_meet 95 = .ok (.aload_n 0, 1) := by decide +kernel
theorem dX5_meet_96 : decode cX5_meet 96 = .ok (.getfield 45, 3) := by decide +kernel
theorem dX5_meet_99 : decode cX5_meet 99 = .ok (.bipush 10, 2) := by decide +kernel
theorem dX5_meet_101 : decode cX5_meet 101 = .ok (.iload_n 1, 1) := by decide +kernel
theorem dX5_meet_102 : decode cX5_meet 102 = .ok (.imul, 1) := by decide +kernel
theorem dX5_meet_103 : decode cX5_meet 103 = .ok (.iload_n 2, 1) := by decide +kernel
theorem dX5_meet_104 : decode cX5_meet 104 = .ok (.iadd, 1) := by decide +kernel
theorem dX5_meet_105 : decode cX5_meet 105 = .ok (.iastore, 1) := by decide +kernel
theorem dX5_meet_106 : decode cX5_meet 106 = .ok (.aload_n 0, 1) := by decide +kernel
theorem dX5_meet_107 : decode cX5_meet 107 = .ok (.dup, 1) := by decide +kernel
theorem dX5_meet_108 : decode cX5_meet 108 = .ok (.getfield 45, 3) := by decide +kernel
theorem dX5_meet_111 : decode cX5_meet 111 = .ok (.iconst 1, 1) := by decide +kernel
theorem dX5_meet_112 : decode cX5_meet 112 = .ok (.iadd, 1) := by decide +kernel
theorem dX5_meet_113 : decode cX5_meet 113 = .ok (.putfield 45, 3) := by decide +kernel
theorem dX5_meet_116 : decode cX5_meet 116 = .ok (.return_, 1) := by decide +kernel
theorem dX5_madeIllBy_0 : decode cX5_madeIllBy 0 = .ok (.iconst 1, 1) := by decide +kernel
theorem dX5_madeIllBy_1 : decode cX5_madeIllBy 1 = .ok (.iload_n 1, 1) := by decide +kernel
theorem dX5_madeIllBy_2 : decode cX5_madeIllBy 2 = .ok (.ishl, 1) := by decide +kernel
theorem dX5_madeIllBy_3 : decode cX5_madeIllBy 3 = .ok (.istore_n 2, 1) := by decide +kernel
theorem dX5_madeIllBy_4 : decode cX5_madeIllBy 4 = .ok (.iconst 0, 1) := by decide +kernel
theorem dX5_madeIllBy_5 : decode cX5_madeIllBy 5 = .ok (.istore_n 3, 1) := by decide +kernel
theorem dX5_madeIllBy_6 : decode cX5_madeIllBy 6 = .ok (.iload_n 3, 1) := by decide +kernel
theorem dX5_madeIllBy_7 : decode cX5_madeIllBy 7 = .ok (.aload_n 0, 1) := by decide +kernel
theorem dX5_madeIllBy_8 : decode cX5_madeIllBy 8 = .ok (.getfield 45, 3) := by decide +kernel
theorem dX5_madeIllBy_11 : decode cX5_madeIllBy 11 = .ok (.if_icmp .ge 46, 3) := by decide +kernel
theorem dX5_madeIllBy_14 : decode cX5_madeIllBy 14 = .ok (.iconst 1, 1) := by decide +kernel
theorem dX5_madeIllBy_15 : decode cX5_madeIllBy 15 = .ok (.aload_n 0, 1) := by decide +kernel
theorem dX5_madeIllBy_16 : decode cX5_madeIllBy 16 = .ok (.getfield 18, 3) := by decide +kernel
theorem dX5_madeIllBy_19 : decode cX5_madeIllBy 19 = .ok (.iload_n 3, 1) := by decide +kernel
theorem dX5_madeIllBy_20 : decode cX5_madeIllBy 20 = .ok (.iaload, 1) := by decide +kernel
theorem dX5_madeIllBy_21 : decode cX5_madeIllBy 21 = .ok (.bipush 10, 2) := by decide +kernel
theorem dX5_madeIllBy_23 : decode cX5_madeIllBy 23 = .ok (.idiv, 1) := by decide +kernel
theorem dX5_madeIllBy_24 : decode cX5_madeIllBy 24 = .ok (.ishl, 1) := by decide +kernel
theorem dX5_madeIllBy_25 : decode cX5_madeIllBy 25 = .ok (.iconst 1, 1) := by decide +kernel
theorem dX5_madeIllBy_26 : decode cX5_madeIllBy 26 = .ok (.aload_n 0, 1) := by decide +kernel
theorem dX5_madeIllBy_27 : decode cX5_madeIllBy 27 = .ok (.getfield 18, 3) := by decide +kernel
theorem dX5_madeIllBy_30 : decode cX5_madeIllBy 30 = .ok (.iload_n 3, 1) := by decide +kernel
end
section
theorem dX5_madeIllBy_31 : decode cX5_madeIllBy 31 = .ok (.iaload, 1) := by decide +kernel
theorem dX5_madeIllBy_32 : decode cX5_madeIllBy 32 = .ok (.bipush 10, 2) := by decide +kernel
theorem dX5_madeIllBy_34 : decode cX5_madeIllBy 34 = .ok (.irem, 1) := by decide +kernel
theorem dX5_madeIllBy_35 : decode cX5_madeIllBy 35 = .ok (.ishl, 1) := by decide +kernel
theorem dX5_madeIllBy_36 : decode cX5_madeIllBy 36 = .ok (.ior, 1) := by decide +kernel
theorem dX5_madeIllBy_37 : decode cX5_madeIllBy 37 = .ok (.istore 4, 2) := by decide +kernel
theorem dX5_madeIllBy_39 : decode cX5_madeIllBy 39 = .ok (.iload_n 2, 1) := by decide +kernel
theorem dX5_madeIllBy_40 : decode cX5_madeIllBy 40 = .ok (.iload 4, 2) := by decide +kernel
theorem dX5_madeIllBy_42 : decode cX5_madeIllBy 42 = .ok (.iand, 1) := by decide +kernel
theorem dX5_madeIllBy_43 : decode cX5_madeIllBy 43 = .ok (.ifCond .eq 8, 3) := by decide +kernel
theorem dX5_madeIllBy_46 : decode cX5_madeIllBy 46 = .ok (.iload_n 2, 1) := by decide +kernel
theorem dX5_madeIllBy_47 : decode cX5_madeIllBy 47 = .ok (.iload 4, 2) := by decide +kernel
theorem dX5_madeIllBy_49 : decode cX5_madeIllBy 49 = .ok (.ior, 1) := by decide +kernel
theorem dX5_madeIllBy_50 : decode cX5_madeIllBy 50 = .ok (.istore_n 2, 1) := by decide +kernel
theorem dX5_madeIllBy_51 : decode cX5_madeIllBy 51 = .ok (.iinc 3 1, 3) := by decide +kernel
theorem dX5_madeIllBy_54 : decode cX5_madeIllBy 54 = .ok (.goto (-48), 3) := by decide +kernel
theorem dX5_madeIllBy_57 : decode cX5_madeIllBy 57 = .ok (.iload_n 2, 1) := by decide +kernel
theorem dX5_madeIllBy_58 : decode cX5_madeIllBy 58 = .ok (.ireturn, 1) := by decide +kernel
theorem dX6_init_0 : decode cX6_init 0 = .ok (.aload_n 0, 1) := by decide +kernel
theorem dX6_init_1 : decode cX6_init 1 = .ok (.invokespecial 3, 3) := by decide +kernel
theorem dX6_init_4 : decode cX6_init 4 = .ok (.aload_n 0, 1) := by decide +kernel
theorem dX6_init_5 : decode cX6_init 5 = .ok (.sipush 240, 3) := by decide +kernel
theorem dX6_init_8 : decode cX6_init 8 = .ok (.newarray .int, 2) := by decide +kernel
theorem dX6_init_10 : decode cX6_init 10 = .ok (.putfield 9, 3) := by decide +kernel
theorem dX6_init_13 : decode cX6_init 13 = .ok (.return_, 1) := by decide +kernel
theorem dX6_append_0 : decode cX6_append 0 = .ok (.aload_n 0, 1) := by decide +kernel
theorem dX6_append_1 : decode cX6_append 1 = .ok (.getfield 15, 3) := by decide +kernel
theorem dX6_append_4 : decode cX6_append 4 = .ok (.sipush 240, 3) := by decide +kernel
theorem dX6_append_7 : decode cX6_append 7 = .ok (.if_icmp .ge 23, 3) := by decide +kernel
theorem dX6_append_10 : decode cX6_append 10 = .ok (.aload_n 0, 1) := by decide +kernel
theorem dX6_append_11 : decode cX6_append 11 = .ok (.getfield 9, 3) := by decide +kernel
theorem dX6_append_14 : decode cX6_append 14 = .ok (.aload_n 0, 1) := by decide +kernel
theorem dX6_append_15 : decode cX6_append 15 = .ok (.getfield 15, 3) := by decide +kernel
theorem dX6_append_18 : decode cX6_append 18 = .ok (.iload_n 1, 1) := by decide +kernel
theorem dX6_append_19 : decode cX6_append 19 = .ok (.iastore, 1) := by decide +kernel
theorem dX6_append_20 : decode cX6_append 20 = .ok (.aload_n 0, 1) := by decide +kernel
theorem dX6_append_21 : decode cX6_append 21 = .ok (.dup, 1) := by decide +kernel
theorem dX6_append_22 : decode cX6_append 22 = .ok (.getfield 15, 3) := by decide +kernel
theorem dX6_append_25 : decode cX6_append 25 = .ok (.iconst 1, 1) := by decide +kernel
theorem dX6_append_26 : decode cX6_append 26 = .ok (.iadd, 1) := by decide +kernel
theorem dX6_append_27 : decode cX6_append 27 = .ok (.putfield 15, 3) := by decide +kernel
theorem dX6_append_30 : decode cX6_append 30 = .ok (.aload_n 0, 1) := by decide +kernel
theorem dX6_append_31 : decode cX6_append 31 = .ok (.getfield 15, 3) := by decide +kernel
theorem dX6_append_34 : decode cX6_append 34 = .ok (.ireturn, 1) := by decide +kernel
theorem dX6_readInto_0 : decode cX6_readInto 0 = .ok (.aload_n 0, 1) := by decide +kernel
theorem dX6_readInto_1 : decode cX6_readInto 1 = .ok (.iconst 0, 1) := by decide +kernel
theorem dX6_readInto_2 : decode cX6_readInto 2 = .ok (.putfield 19, 3) := by decide +kernel
theorem dX6_readInto_5 : decode cX6_readInto 5 = .ok (.aload_n 0, 1) := by decide +kernel
theorem dX6_readInto_6 : decode cX6_readInto 6 = .ok (.iconst 0, 1) := by decide +kernel
theorem dX6_readInto_7 : decode cX6_readInto 7 = .ok (.putfield 22, 3) := by decide +kernel
theorem dX6_readInto_10 : decode cX6_readInto 10 = .ok (.aload_n 0, 1) := by decide +kernel
theorem dX6_readInto_11 : decode cX6_readInto 11 = .ok (.iconst (-1), 1) := by decide +kernel
theorem dX6_readInto_12 : decode cX6_readInto 12 = .ok (.putfield 25, 3) := by decide +kernel
theorem dX6_readInto_15 : decode cX6_readInto 15 = .ok (.aload_n 1, 1) := by decide +kernel
theorem dX6_readInto_16 : decode cX6_readInto 16 = .ok (.invokevirtual 28, 3) := by decide +kernel
theorem dX6_readInto_19 : decode cX6_readInto 19 = .ok (.aload_n 0, 1) := by decide +kernel
theorem dX6_readInto_20 : decode cX6_readInto 20 = .ok (.invokevirtual 33, 3) := by decide +kernel
theorem dX6_readInto_23 : decode cX6_readInto 23 = .ok (.iconst 0, 1) := by decide +kernel
theorem dX6_readInto_24 : decode cX6_readInto 24 = .ok (.istore_n 2, 1) := by decide +kernel
theorem dX6_readInto_25 : decode cX6_readInto 25 = .ok (.iload_n 2, 1) := by decide +kernel
theorem dX6_readInto_26 : decode cX6_readInto 26 = .ok (.sipush 240, 3) := by decide +kernel
theorem dX6_readInto_29 : decode cX6_readInto 29 = .ok (.if_icmp .ge 36, 3) := by decide +kernel
theorem dX6_readInto_32 : decode cX6_readInto 32 = .ok (.aload_n 0, 1) := by decide +kernel
theorem dX6_readInto_33 : decode cX6_readInto 33 = .ok (.getfield 22, 3) := by decide +kernel
theorem dX6_readInto_36 : decode cX6_readInto 36 = .ok (.ifCond .ne 29, 3) := by decide +kernel
theorem dX6_readInto_39 : decode cX6_readInto 39 = .ok (.aload_n 0, 1) := by decide +kernel
theorem dX6_readInto_40 : decode cX6_readInto 40 = .ok (.getfield 19, 3) := by decide +kernel
theorem dX6_readInto_43 : decode cX6_readInto 43 = .ok (.aload_n 0, 1) := by decide +kernel
theorem dX6_readInto_44 : decode cX6_readInto 44 = .ok (.getfield 15, 3) := by decide +kernel
theorem dX6_readInto_47 : decode cX6_readInto 47 = .ok (.if_icmp .ge 18, 3) := by decide +kernel
theorem dX6_readInto_50 : decode cX6_readInto 50 = .ok (.aload_n 0, 1) := by decide +kernel
theorem dX6_readInto_51 : decode cX6_readInto 51 = .ok (.aload_n 1, 1) := by decide +kernel
theorem dX6_readInto_52 : decode cX6_readInto 52 = .ok (.invokevirtual 36, 3) := by decide +kernel
theorem dX6_readInto_55 : decode cX6_readInto 55 = .ok (.aload_n 0, 1) := by decide +kernel
theorem dX6_readInto_56 : decode cX6_readInto 56 = .ok (.invokevirtual 33, 3) := by decide +kernel
theorem dX6_readInto_59 : decode cX6_readInto 59 = .ok (.iinc 2 1, 3) := by decide +kernel
theorem dX6_readInto_62 : decode cX6_readInto 62 = .ok (.goto (-37), 3) := by decide +kernel
theorem dX6_readInto_65 : decode cX6_readInto 65 = .ok (.aload_n 0, 1) := by decide +kernel
theorem dX6_readInto_66 : decode cX6_readInto 66 = .ok (.getfield 22, 3) := by decide +kernel
theorem dX6_readInto_69 : decode cX6_readInto 69 = .ok (.ireturn, 1) := by decide +kernel
theorem dX6_blame_0 : decode cX6_blame 0 = .ok (.aload_n 0, 1) := by decide +kernel
theorem dX6_blame_1 : decode cX6_blame 1 = .ok (.getfield 22, 3) := by decide +kernel
theorem dX6_blame_4 : decode cX6_blame 4 = .ok (.ifCond .ne 13, 3) := by decide +kernel
theorem dX6_blame_7 : decode cX6_blame 7 = .ok (.aload_n 0, 1) := by decide +kernel
theorem dX6_blame_8 : decode cX6_blame 8 = .ok (.iload_n 1, 1) := by decide +kernel
theorem dX6_blame_9 : decode cX6_blame 9 = .ok (.putfield 22, 3) := by decide +kernel
theorem dX6_blame_12 : decode cX6_blame 12 = .ok (.aload_n 0, 1) := by decide +kernel
theorem dX6_blame_13 : decode cX6_blame 13 = .ok (.iload_n 2, 1) := by decide +kernel
theorem dX6_blame_14 : decode cX6_blame 14 = .ok (.putfield 25, 3) := by decide +kernel
theorem dX6_blame_17 : decode cX6_blame 17 = .ok (.return_, 1) := by decide +kernel
theorem dX6_skipBlanks_0 : decode cX6_skipBlanks 0 = .ok (.aload_n 0, 1) := by decide +kernel
theorem dX6_skipBlanks_1 : decode cX6_skipBlanks 1 = .ok (.getfield 19, 3) := by decide +kernel
theorem dX6_skipBlanks_4 : decode cX6_skipBlanks 4 = .ok (.aload_n 0, 1) := by decide +kernel
theorem dX6_skipBlanks_5 : decode cX6_skipBlanks 5 = .ok (.getfield 15, 3) := by decide +kernel
theorem dX6_skipBlanks_8 : decode cX6_skipBlanks 8 = .ok (.if_icmp .ge 30, 3) := by decide +kernel
theorem dX6_skipBlanks_11 : decode cX6_skipBlanks 11 = .ok (.aload_n 0, 1) := by decide +kernel
theorem dX6_skipBlanks_12 : decode cX6_skipBlanks 12 = .ok (.getfield 9, 3) := by decide +kernel
theorem dX6_skipBlanks_15 : decode cX6_skipBlanks 15 = .ok (.aload_n 0, 1) := by decide +kernel
theorem dX6_skipBlanks_16 : decode cX6_skipBlanks 16 = .ok (.getfield 19, 3) := by decide +kernel
theorem dX6_skipBlanks_19 : decode cX6_skipBlanks 19 = .ok (.iaload, 1) := by decide +kernel
theorem dX6_skipBlanks_20 : decode cX6_skipBlanks 20 = .ok (.bipush 32, 2) := by decide +kernel
theorem dX6_skipBlanks_22 : decode cX6_skipBlanks 22 = .ok (.if_icmp .ne 16, 3) := by decide +kernel
theorem dX6_skipBlanks_25 : decode cX6_skipBlanks 25 = .ok (.aload_n 0, 1) := by decide +kernel
theorem dX6_skipBlanks_26 : decode cX6_skipBlanks 26 = .ok (.dup, 1) := by decide +kernel
theorem dX6_skipBlanks_27 : decode cX6_skipBlanks 27 = .ok (.getfield 19, 3) := by decide +kernel
theorem dX6_skipBlanks_30 : decode cX6_skipBlanks 30 = .ok (.iconst 1, 1) := by decide +kernel
theorem dX6_skipBlanks_31 : decode cX6_skipBlanks 31 = .ok (.iadd, 1) := by decide +kernel
theorem dX6_skipBlanks_32 : decode cX6_skipBlanks 32 = .ok (.putfield 19, 3) := by decide +kernel
theorem dX6_skipBlanks_35 : decode cX6_skipBlanks 35 = .ok (.goto (-35), 3) := by decide +kernel
theorem dX6_skipBlanks_38 : decode cX6_skipBlanks 38 = .ok (.return_, 1) := by decide +kernel
theorem dX6_readClause_0 : decode cX6_readClause 0 = .ok (.aload_n 0, 1) := by decide +kernel
theorem dX6_readClause_1 : decode cX6_readClause 1 = .ok (.getfield 19, 3) := by decide +kernel
theorem dX6_readClause_4 : decode cX6_readClause 4 = .ok (.istore_n 2, 1) := by decide +kernel
theorem dX6_readClause_5 : decode cX6_readClause 5 = .ok (.aload_n 0, 1) := by decide +kernel
theorem dX6_readClause_6 : decode cX6_readClause 6 = .ok (.dup, 1) := by decide +kernel
theorem dX6_readClause_7 : decode cX6_readClause 7 = .ok (.getfield 19, 3) := by decide +kernel
theorem dX6_readClause_10 : decode cX6_readClause 10 = .ok (.iconst 1, 1) := by decide +kernel
theorem dX6_readClause_11 : decode cX6_readClause 11 = .ok (.iadd, 1) := by decide +kernel
theorem dX6_readClause_12 : decode cX6_readClause 12 = .ok (.putfield 19, 3) := by decide +kernel
theorem dX6_readClause_15 : decode cX6_readClause 15 = .ok (.aload_n 0, 1) := by decide +kernel
theorem dX6_readClause_16 : decode cX6_readClause 16 = .ok (.getfield 9, 3) := by decide +kernel
theorem dX6_readClause_19 : decode cX6_readClause 19 = .ok (.iload_n 2, 1) := by decide +kernel
theorem dX6_readClause_20 : decode cX6_readClause 20 = .ok (.iaload, 1) := by decide +kernel
theorem dX6_readClause_21 : decode cX6_readClause 21 = .ok (.lookupswitch 61 #[(103, 35), (108, 53), (112, 44)], 35) := by decide +kernel
theorem dX6_readClause_56 : decode cX6_readClause 56 = .ok (.aload_n 0, 1) := by decide +kernel
theorem dX6_readClause_57 : decode cX6_readClause 57 = .ok (.aload_n 1, 1) := by decide +kernel
theorem dX6_readClause_58 : decode cX6_readClause 58 = .ok (.iload_n 2, 1) := by decide +kernel
theorem dX6_readClause_59 : decode cX6_readClause 59 = .ok (.invokevirtual 40, 3) := by decide +kernel
theorem dX6_readClause_62 : decode cX6_readClause 62 = .ok (.goto 26, 3) := by decide +kernel
theorem dX6_readClause_65 : decode cX6_readClause 65 = .ok (.aload_n 0, 1) := by decide +kernel
theorem dX6_readClause_66 : decode cX6_readClause 66 = .ok (.aload_n 1, 1) := by decide +kernel
theorem dX6_readClause_67 : decode cX6_readClause 67 = .ok (.iload_n 2, 1) := by decide +kernel
theorem dX6_readClause_68 : decode cX6_readClause 68 = .ok (.invokevirtual 44, 3) := by decide +kernel
theorem dX6_readClause_71 : decode cX6_readClause 71 = .ok (.goto 17, 3) := by decide +kernel
theorem dX6_readClause_74 : decode cX6_readClause 74 = .ok (.aload_n 0, 1) := by decide +kernel
theorem dX6_readClause_75 : decode cX6_readClause 75 = .ok (.aload_n 1, 1) := by decide +kernel
theorem dX6_readClause_76 : decode cX6_readClause 76 = .ok (.invokevirtual 47, 3) := by decide +kernel
theorem dX6_readClause_79 : decode cX6_readClause 79 = .ok (.goto 9, 3) := by decide +kernel
theorem dX6_readClause_82 : decode cX6_readClause 82 = .ok (.aload_n 0, 1) := by decide +kernel
theorem dX6_readClause_83 : decode cX6_readClause 83 = .ok (.iconst 1, 1) := by decide +kernel
theorem dX6_readClause_84 : decode cX6_readClause 84 = .ok (.iload_n 2, 1) := by decide +kernel
theorem dX6_readClause_85 : decode cX6_readClause 85 = .ok (.invokevirtual 50, 3) := by decide +kernel
theorem dX6_readClause_88 : decode cX6_readClause 88 = .ok (.return_, 1) := by decide +kernel
theorem dX6_readGate_0 : decode cX6_readGate 0 = .ok (.aload_n 1, 1) := by decide +kernel
theorem dX6_readGate_1 : decode cX6_readGate 1 = .ok (.getfield 54, 3) := by decide +kernel
theorem dX6_readGate_4 : decode cX6_readGate 4 = .ok (.iconst 5, 1) := by decide +kernel
theorem dX6_readGate_5 : decode cX6_readGate 5 = .ok (.if_icmp .lt 9, 3) := by decide +kernel
theorem dX6_readGate_8 : decode cX6_readGate 8 = .ok (.aload_n 0, 1) := by decide +kernel
theorem dX6_readGate_9 : decode cX6_readGate 9 = .ok (.iconst 3, 1) := by decide +kernel
theorem dX6_readGate_10 : decode cX6_readGate 10 = .ok (.iload_n 2, 1) := by decide +kernel
theorem dX6_readGate_11 : decode cX6_readGate 11 = .ok (.invokevirtual 50, 3) := by decide +kernel
theorem dX6_readGate_14 : decode cX6_readGate 14 = .ok (.aload_n 0, 1) := by decide +kernel
theorem dX6_readGate_15 : decode cX6_readGate 15 = .ok (.iconst 1, 1) := by decide +kernel
theorem dX6_readGate_16 : decode cX6_readGate 16 = .ok (.bipush 99, 2) := by decide +kernel
theorem dX6_readGate_18 : decode cX6_readGate 18 = .ok (.invokevirtual 57, 3) := by decide +kernel
theorem dX6_readGate_21 : decode cX6_readGate 21 = .ok (.istore_n 3, 1) := by decide +kernel
theorem dX6_readGate_22 : decode cX6_readGate 22 = .ok (.aload_n 0, 1) := by decide +kernel
theorem dX6_readGate_23 : decode cX6_readGate 23 = .ok (.invokevirtual 61, 3) := by decide +kernel
theorem dX6_readGate_26 : decode cX6_readGate 26 = .ok (.ifCond .eq 8, 3) := by decide +kernel
theorem dX6_readGate_29 : decode cX6_readGate 29 = .ok (.aload_n 1, 1) := by decide +kernel
theorem dX6_readGate_30 : decode cX6_readGate 30 = .ok (.iload_n 3, 1) := by decide +kernel
theorem dX6_readGate_31 : decode cX6_readGate 31 = .ok (.invokevirtual 65, 3) := by decide +kernel
theorem dX6_readGate_34 : decode cX6_readGate 34 = .ok (.return_, 1) := by decide +kernel
theorem dX6_readPerson_0 : decode cX6_readPerson 0 = .ok (.aload_n 1, 1) := by decide +kernel
theorem dX6_readPerson_1 : decode cX6_readPerson 1 = .ok (.getfield 69, 3) := by decide +kernel
theorem dX6_readPerson_4 : decode cX6_readPerson 4 = .ok (.bipush 7, 2) := by decide +kernel
theorem dX6_readPerson_6 : decode cX6_readPerson 6 = .ok (.if_icmp .lt 9, 3) := by decide +kernel
theorem dX6_readPerson_9 : decode cX6_readPerson 9 = .ok (.aload_n 0, 1) := by decide +kernel
theorem dX6_readPerson_10 : decode cX6_readPerson 10 = .ok (.iconst 3, 1) := by decide +kernel
theorem dX6_readPerson_11 : decode cX6_readPerson 11 = .ok (.iload_n 2, 1) := by decide +kernel
theorem dX6_readPerson_12 : decode cX6_readPerson 12 = .ok (.invokevirtual 50, 3) := by decide +kernel
theorem dX6_readPerson_15 : decode cX6_readPerson 15 = .ok (.aload_n 0, 1) := by decide +kernel
theorem dX6_readPerson_16 : decode cX6_readPerson 16 = .ok (.iconst 0, 1) := by decide +kernel
theorem dX6_readPerson_17 : decode cX6_readPerson 17 = .ok (.iconst 1, 1) := by decide +kernel
theorem dX6_readPerson_18 : decode cX6_readPerson 18 = .ok (.invokevirtual 57, 3) := by decide +kernel
theorem dX6_readPerson_21 : decode cX6_readPerson 21 = .ok (.istore_n 3, 1) := by decide +kernel
theorem dX6_readPerson_22 : decode cX6_readPerson 22 = .ok (.aload_n 0, 1) := by decide +kernel
theorem dX6_readPerson_23 : decode cX6_readPerson 23 = .ok (.iconst 0, 1) := by decide +kernel
theorem dX6_readPerson_24 : decode cX6_readPerson 24 = .ok (.iconst 1, 1) := by decide +kernel
theorem dX6_readPerson_25 : decode cX6_readPerson 25 = .ok (.invokevirtual 57, 3) := by decide +kernel
theorem dX6_readPerson_28 : decode cX6_readPerson 28 = .ok (.istore 4, 2) := by decide +kernel
theorem dX6_readPerson_30 : decode cX6_readPerson 30 = .ok (.aload_n 0, 1) := by decide +kernel
theorem dX6_readPerson_31 : decode cX6_readPerson 31 = .ok (.invokevirtual 61, 3) := by decide +kernel
theorem dX6_readPerson_34 : decode cX6_readPerson 34 = .ok (.ifCond .eq 10, 3) := by decide +kernel
theorem dX6_readPerson_37 : decode cX6_readPerson 37 = .ok (.aload_n 1, 1) := by decide +kernel
theorem dX6_readPerson_38 : decode cX6_readPerson 38 = .ok (.iload_n 3, 1) := by decide +kernel
theorem dX6_readPerson_39 : decode cX6_readPerson 39 = .ok (.iload 4, 2) := by decide +kernel
theorem dX6_readPerson_41 : decode cX6_readPerson 41 = .ok (.invokevirtual 72, 3) := by decide +kernel
theorem dX6_readPerson_44 : decode cX6_readPerson 44 = .ok (.return_, 1) := by decide +kernel
theorem dX6_readLiking_0 : decode cX6_readLiking 0 = .ok (.aload_n 0, 1) := by decide +kernel
theorem dX6_readLiking_1 : decode cX6_readLiking 1 = .ok (.iconst 0, 1) := by decide +kernel
theorem dX6_readLiking_2 : decode cX6_readLiking 2 = .ok (.aload_n 1, 1) := by decide +kernel
theorem dX6_readLiking_3 : decode cX6_readLiking 3 = .ok (.getfield 69, 3) := by decide +kernel
theorem dX6_readLiking_6 : decode cX6_readLiking 6 = .ok (.iconst 1, 1) := by decide +kernel
theorem dX6_readLiking_7 : decode cX6_readLiking 7 = .ok (.isub, 1) := by decide +kernel
theorem dX6_readLiking_8 : decode cX6_readLiking 8 = .ok (.invokevirtual 57, 3) := by decide +kernel
theorem dX6_readLiking_11 : decode cX6_readLiking 11 = .ok (.istore_n 2, 1) := by decide +kernel
theorem dX6_readLiking_12 : decode cX6_readLiking 12 = .ok (.aload_n 0, 1) := by decide +kernel
theorem dX6_readLiking_13 : decode cX6_readLiking 13 = .ok (.iconst 0, 1) := by decide +kernel
theorem dX6_readLiking_14 : decode cX6_readLiking 14 = .ok (.aload_n 1, 1) := by decide +kernel
theorem dX6_readLiking_15 : decode cX6_readLiking 15 = .ok (.getfield 69, 3) := by decide +kernel
theorem dX6_readLiking_18 : decode cX6_readLiking 18 = .ok (.iconst 1, 1) := by decide +kernel
theorem dX6_readLiking_19 : decode cX6_readLiking 19 = .ok (.isub, 1) := by decide +kernel
theorem dX6_readLiking_20 : decode cX6_readLiking 20 = .ok (.invokevirtual 57, 3) := by decide +kernel
theorem dX6_readLiking_23 : decode cX6_readLiking 23 = .ok (.istore_n 3, 1) := by decide +kernel
theorem dX6_readLiking_24 : decode cX6_readLiking 24 = .ok (.iload_n 2, 1) := by decide +kernel
theorem dX6_readLiking_25 : decode cX6_readLiking 25 = .ok (.iload_n 3, 1) := by decide +kernel
theorem dX6_readLiking_26 : decode cX6_readLiking 26 = .ok (.if_icmp .eq 12, 3) := by decide +kernel
theorem dX6_readLiking_29 : decode cX6_readLiking 29 = .ok (.aload_n 1, 1) := by decide +kernel
theorem dX6_readLiking_30 : decode cX6_readLiking 30 = .ok (.iload_n 2, 1) := by decide +kernel
theorem dX6_readLiking_31 : decode cX6_readLiking 31 = .ok (.iload_n 3, 1) := by decide +kernel
theorem dX6_readLiking_32 : decode cX6_readLiking 32 = .ok (.invokevirtual 75, 3) := by decide +kernel
theorem dX6_readLiking_35 : decode cX6_readLiking 35 = .ok (.ifCond .eq 12, 3) := by decide +kernel
theorem dX6_readLiking_38 : decode cX6_readLiking 38 = .ok (.aload_n 0, 1) := by decide +kernel
theorem dX6_readLiking_39 : decode cX6_readLiking 39 = .ok (.iconst 4, 1) := by decide +kernel
theorem dX6_readLiking_40 : decode cX6_readLiking 40 = .ok (.aload_n 0, 1) := by decide +kernel
theorem dX6_readLiking_41 : decode cX6_readLiking 41 = .ok (.getfield 79, 3) := by decide +kernel
theorem dX6_readLiking_44 : decode cX6_readLiking 44 = .ok (.invokevirtual 50, 3) := by decide +kernel
theorem dX6_readLiking_47 : decode cX6_readLiking 47 = .ok (.aload_n 0, 1) := by decide +kernel
theorem dX6_readLiking_48 : decode cX6_readLiking 48 = .ok (.iconst 0, 1) := by decide +kernel
theorem dX6_readLiking_49 : decode cX6_readLiking 49 = .ok (.bipush 9, 2) := by decide +kernel
theorem dX6_readLiking_51 : decode cX6_readLiking 51 = .ok (.invokevirtual 57, 3) := by decide +kernel
theorem dX6_readLiking_54 : decode cX6_readLiking 54 = .ok (.istore 4, 2) := by decide +kernel
theorem dX6_readLiking_56 : decode cX6_readLiking 56 = .ok (.aload_n 0, 1) := by decide +kernel
theorem dX6_readLiking_57 : decode cX6_readLiking 57 = .ok (.invokevirtual 61, 3) := by decide +kernel
theorem dX6_readLiking_60 : decode cX6_readLiking 60 = .ok (.ifCond .eq 11, 3) := by decide +kernel
theorem dX6_readLiking_63 : decode cX6_readLiking 63 = .ok (.aload_n 1, 1) := by decide +kernel
theorem dX6_readLiking_64 : decode cX6_readLiking 64 = .ok (.iload_n 2, 1) := by decide +kernel
theorem dX6_readLiking_65 : decode cX6_readLiking 65 = .ok (.iload_n 3, 1) := by decide +kernel
theorem dX6_readLiking_66 : decode cX6_readLiking 66 = .ok (.iload 4, 2) := by decide +kernel
theorem dX6_readLiking_68 : decode cX6_readLiking 68 = .ok (.invokevirtual 82, 3) := by decide +kernel
theorem dX6_readLiking_71 : decode cX6_readLiking 71 = .ok (.return_, 1) := by decide +kernel
theorem dX6_readNumber_0 : decode cX6_readNumber 0 = .ok (.aload_n 0, 1) := by decide +kernel
theorem dX6_readNumber_1 : decode cX6_readNumber 1 = .ok (.getfield 22, 3) := by decide +kernel
theorem dX6_readNumber_4 : decode cX6_readNumber 4 = .ok (.ifCond .eq 5, 3) := by decide +kernel
theorem dX6_readNumber_7 : decode cX6_readNumber 7 = .ok (.iconst 0, 1) := by decide +kernel
theorem dX6_readNumber_8 : decode cX6_readNumber 8 = .ok (.ireturn, 1) := by decide +kernel
theorem dX6_readNumber_9 : decode cX6_readNumber 9 = .ok (.aload_n 0, 1) := by decide +kernel
theorem dX6_readNumber_10 : decode cX6_readNumber 10 = .ok (.invokevirtual 33, 3) := by decide +kernel
theorem dX6_readNumber_13 : decode cX6_readNumber 13 = .ok (.aload_n 0, 1) := by decide +kernel
theorem dX6_readNumber_14 : decode cX6_readNumber 14 = .ok (.aload_n 0, 1) := by decide +kernel
theorem dX6_readNumber_15 : decode cX6_readNumber 15 = .ok (.getfield 19, 3) := by decide +kernel
theorem dX6_readNumber_18 : decode cX6_readNumber 18 = .ok (.putfield 79, 3) := by decide +kernel
theorem dX6_readNumber_21 : decode cX6_readNumber 21 = .ok (.iconst 0, 1) := by decide +kernel
theorem dX6_readNumber_22 : decode cX6_readNumber 22 = .ok (.istore_n 3, 1) := by decide +kernel
theorem dX6_readNumber_23 : decode cX6_readNumber 23 = .ok (.aload_n 0, 1) := by decide +kernel
theorem dX6_readNumber_24 : decode cX6_readNumber 24 = .ok (.getfield 19, 3) := by decide +kernel
theorem dX6_readNumber_27 : decode cX6_readNumber 27 = .ok (.aload_n 0, 1) := by decide +kernel
theorem dX6_readNumber_28 : decode cX6_readNumber 28 = .ok (.getfield 15, 3) := by decide +kernel
theorem dX6_readNumber_31 : decode cX6_readNumber 31 = .ok (.if_icmp .ge 75, 3) := by decide +kernel
theorem dX6_readNumber_34 : decode cX6_readNumber 34 = .ok (.aload_n 0, 1) := by decide +kernel
theorem dX6_readNumber_35 : decode cX6_readNumber 35 = .ok (.getfield 9, 3) := by decide +kernel
theorem dX6_readNumber_38 : decode cX6_readNumber 38 = .ok (.aload_n 0, 1) := by decide +kernel
theorem dX6_readNumber_39 : decode cX6_readNumber 39 = .ok (.getfield 19, 3) := by decide +kernel
theorem dX6_readNumber_42 : decode cX6_readNumber 42 = .ok (.iaload, 1) := by decide +kernel
theorem dX6_readNumber_43 : decode cX6_readNumber 43 = .ok (.bipush 48, 2) := by decide +kernel
theorem dX6_readNumber_45 : decode cX6_readNumber 45 = .ok (.if_icmp .lt 61, 3) := by decide +kernel
theorem dX6_readNumber_48 : decode cX6_readNumber 48 = .ok (.aload_n 0, 1) := by decide +kernel
theorem dX6_readNumber_49 : decode cX6_readNumber 49 = .ok (.getfield 9, 3) := by decide +kernel
theorem dX6_readNumber_52 : decode cX6_readNumber 52 = .ok (.aload_n 0, 1) := by decide +kernel
theorem dX6_readNumber_53 : decode cX6_readNumber 53 = .ok (.getfield 19, 3) := by decide +kernel
theorem dX6_readNumber_56 : decode cX6_readNumber 56 = .ok (.iaload, 1) := by decide +kernel
theorem dX6_readNumber_57 : decode cX6_readNumber 57 = .ok (.bipush 57, 2) := by decide +kernel
theorem dX6_readNumber_59 : decode cX6_readNumber 59 = .ok (.if_icmp .gt 47, 3) := by decide +kernel
theorem dX6_readNumber_62 : decode cX6_readNumber 62 = .ok (.aload_n 0, 1) := by decide +kernel
theorem dX6_readNumber_63 : decode cX6_readNumber 63 = .ok (.getfield 19, 3) := by decide +kernel
theorem dX6_readNumber_66 : decode cX6_readNumber 66 = .ok (.aload_n 0, 1) := by decide +kernel
theorem dX6_readNumber_67 : decode cX6_readNumber 67 = .ok (.getfield 79, 3) := by decide +kernel
theorem dX6_readNumber_70 : decode cX6_readNumber 70 = .ok (.isub, 1) := by decide +kernel
theorem dX6_readNumber_71 : decode cX6_readNumber 71 = .ok (.iconst 3, 1) := by decide +kernel
theorem dX6_readNumber_72 : decode cX6_readNumber 72 = .ok (.if_icmp .ge 21, 3) := by decide +kernel
theorem dX6_readNumber_75 : decode cX6_readNumber 75 = .ok (.bipush 10, 2) := by decide +kernel
theorem dX6_readNumber_77 : decode cX6_readNumber 77 = .ok (.iload_n 3, 1) := by decide +kernel
theorem dX6_readNumber_78 : decode cX6_readNumber 78 = .ok (.imul, 1) := by decide +kernel
theorem dX6_readNumber_79 : decode cX6_readNumber 79 = .ok (.aload_n 0, 1) := by decide +kernel
theorem dX6_readNumber_80 : decode cX6_readNumber 80 = .ok (.getfield 9, 3) := by decide +kernel
theorem dX6_readNumber_83 : decode cX6_readNumber 83 = .ok (.aload_n 0, 1) := by decide +kernel
theorem dX6_readNumber_84 : decode cX6_readNumber 84 = .ok (.getfield 19, 3) := by decide +kernel
theorem dX6_readNumber_87 : decode cX6_readNumber 87 = .ok (.iaload, 1) := by decide +kernel
theorem dX6_readNumber_88 : decode cX6_readNumber 88 = .ok (.iadd, 1) := by decide +kernel
theorem dX6_readNumber_89 : decode cX6_readNumber 89 = .ok (.bipush 48, 2) := by decide +kernel
theorem dX6_readNumber_91 : decode cX6_readNumber 91 = .ok (.isub, 1) := by decide +kernel
theorem dX6_readNumber_92 : decode cX6_readNumber 92 = .ok (.istore_n 3, 1) := by decide +kernel
theorem dX6_readNumber_93 : decode cX6_readNumber 93 = .ok (.aload_n 0, 1) := by decide +kernel
theorem dX6_readNumber_94 : decode cX6_readNumber 94 = .ok (.dup, 1) := by decide +kernel
theorem dX6_readNumber_95 : decode cX6_readNumber 95 = .ok (.getfield 19, 3) := by decide +kernel
theorem dX6_readNumber_98 : decode cX6_readNumber 98 = .ok (.iconst 1, 1) := by decide +kernel
theorem dX6_readNumber_99 : decode cX6_readNumber 99 = .ok (.iadd, 1) := by decide +kernel
theorem dX6_readNumber_100 : decode cX6_readNumber 100 = .ok (.putfield 19, 3) := by decide +kernel
theorem dX6_readNumber_103 : decode cX6_readNumber 103 = .ok (.goto (-80), 3) := by decide +kernel
theorem dX6_readNumber_106 : decode cX6_readNumber 106 = .ok (.aload_n 0, 1) := by decide +kernel
theorem dX6_readNumber_107 : decode cX6_readNumber 107 = .ok (.getfield 19, 3) := by decide +kernel
theorem dX6_readNumber_110 : decode cX6_readNumber 110 = .ok (.aload_n 0, 1) := by decide +kernel
theorem dX6_readNumber_111 : decode cX6_readNumber 111 = .ok (.getfield 79, 3) := by decide +kernel
theorem dX6_readNumber_114 : decode cX6_readNumber 114 = .ok (.if_icmp .ne 15, 3) := by decide +kernel
theorem dX6_readNumber_117 : decode cX6_readNumber 117 = .ok (.aload_n 0, 1) := by decide +kernel
theorem dX6_readNumber_118 : decode cX6_readNumber 118 = .ok (.iconst 1, 1) := by decide +kernel
theorem dX6_readNumber_119 : decode cX6_readNumber 119 = .ok (.aload_n 0, 1) := by decide +kernel
theorem dX6_readNumber_120 : decode cX6_readNumber 120 = .ok (.getfield 19, 3) := by decide +kernel
theorem dX6_readNumber_123 : decode cX6_readNumber 123 = .ok (.invokevirtual 50, 3) := by decide +kernel
theorem dX6_readNumber_126 : decode cX6_readNumber 126 = .ok (.goto 35, 3) := by decide +kernel
theorem dX6_readNumber_129 : decode cX6_readNumber 129 = .ok (.aload_n 0, 1) := by decide +kernel
theorem dX6_readNumber_130 : decode cX6_readNumber 130 = .ok (.getfield 19, 3) := by decide +kernel
theorem dX6_readNumber_133 : decode cX6_readNumber 133 = .ok (.aload_n 0, 1) := by decide +kernel
theorem dX6_readNumber_134 : decode cX6_readNumber 134 = .ok (.getfield 79, 3) := by decide +kernel
theorem dX6_readNumber_137 : decode cX6_readNumber 137 = .ok (.isub, 1) := by decide +kernel
theorem dX6_readNumber_138 : decode cX6_readNumber 138 = .ok (.iconst 3, 1) := by decide +kernel
theorem dX6_readNumber_139 : decode cX6_readNumber 139 = .ok (.if_icmp .gt 13, 3) := by decide +kernel
theorem dX6_readNumber_142 : decode cX6_readNumber 142 = .ok (.iload_n 3, 1) := by decide +kernel
theorem dX6_readNumber_143 : decode cX6_readNumber 143 = .ok (.iload_n 1, 1) := by decide +kernel
theorem dX6_readNumber_144 : decode cX6_readNumber 144 = .ok (.if_icmp .lt 8, 3) := by decide +kernel
theorem dX6_readNumber_147 : decode cX6_readNumber 147 = .ok (.iload_n 3, 1) := by decide +kernel
theorem dX6_readNumber_148 : decode cX6_readNumber 148 = .ok (.iload_n 2, 1) := by decide +kernel
theorem dX6_readNumber_149 : decode cX6_readNumber 149 = .ok (.if_icmp .le 12, 3) := by decide +kernel
theorem dX6_readNumber_152 : decode cX6_readNumber 152 = .ok (.aload_n 0, 1) := by decide +kernel
theorem dX6_readNumber_153 : decode cX6_readNumber 153 = .ok (.iconst 2, 1) := by decide +kernel
theorem dX6_readNumber_154 : decode cX6_readNumber 154 = .ok (.aload_n 0, 1) := by decide +kernel
theorem dX6_readNumber_155 : decode cX6_readNumber 155 = .ok (.getfield 79, 3) := by decide +kernel
theorem dX6_readNumber_158 : decode cX6_readNumber 158 = .ok (.invokevirtual 50, 3) := by decide +kernel
theorem dX6_readNumber_161 : decode cX6_readNumber 161 = .ok (.iload_n 3, 1) := by decide +kernel
theorem dX6_readNumber_162 : decode cX6_readNumber 162 = .ok (.ireturn, 1) := by decide +kernel
theorem dX6_readEnd_0 : decode cX6_readEnd 0 = .ok (.aload_n 0, 1) := by decide +kernel
theorem dX6_readEnd_1 : decode cX6_readEnd 1 = .ok (.getfield 22, 3) := by decide +kernel
theorem dX6_readEnd_4 : decode cX6_readEnd 4 = .ok (.ifCond .eq 5, 3) := by decide +kernel
theorem dX6_readEnd_7 : decode cX6_readEnd 7 = .ok (.iconst 0, 1) := by decide +kernel
theorem dX6_readEnd_8 : decode cX6_readEnd 8 = .ok (.ireturn, 1) := by decide +kernel
theorem dX6_readEnd_9 : decode cX6_readEnd 9 = .ok (.aload_n 0, 1) := by decide +kernel
theorem dX6_readEnd_10 : decode cX6_readEnd 10 = .ok (.invokevirtual 33, 3) := by decide +kernel
theorem dX6_readEnd_13 : decode cX6_readEnd 13 = .ok (.aload_n 0, 1) := by decide +kernel
theorem dX6_readEnd_14 : decode cX6_readEnd 14 = .ok (.getfield 19, 3) := by decide +kernel
theorem dX6_readEnd_17 : decode cX6_readEnd 17 = .ok (.aload_n 0, 1) := by decide +kernel
theorem dX6_readEnd_18 : decode cX6_readEnd 18 = .ok (.getfield 15, 3) := by decide +kernel
theorem dX6_readEnd_21 : decode cX6_readEnd 21 = .ok (.if_icmp .ge 17, 3) := by decide +kernel
theorem dX6_readEnd_24 : decode cX6_readEnd 24 = .ok (.aload_n 0, 1) := by decide +kernel
theorem dX6_readEnd_25 : decode cX6_readEnd 25 = .ok (.getfield 9, 3) := by decide +kernel
theorem dX6_readEnd_28 : decode cX6_readEnd 28 = .ok (.aload_n 0, 1) := by decide +kernel
theorem dX6_readEnd_29 : decode cX6_readEnd 29 = .ok (.getfield 19, 3) := by decide +kernel
theorem dX6_readEnd_32 : decode cX6_readEnd 32 = .ok (.iaload, 1) := by decide +kernel
theorem dX6_readEnd_33 : decode cX6_readEnd 33 = .ok (.bipush 59, 2) := by decide +kernel
theorem dX6_readEnd_35 : decode cX6_readEnd 35 = .ok (.if_icmp .eq 14, 3) := by decide +kernel
theorem dX6_readEnd_38 : decode cX6_readEnd 38 = .ok (.aload_n 0, 1) := by decide +kernel
theorem dX6_readEnd_39 : decode cX6_readEnd 39 = .ok (.iconst 1, 1) := by decide +kernel
theorem dX6_readEnd_40 : decode cX6_readEnd 40 = .ok (.aload_n 0, 1) := by decide +kernel
theorem dX6_readEnd_41 : decode cX6_readEnd 41 = .ok (.getfield 19, 3) := by decide +kernel
theorem dX6_readEnd_44 : decode cX6_readEnd 44 = .ok (.invokevirtual 50, 3) := by decide +kernel
theorem dX6_readEnd_47 : decode cX6_readEnd 47 = .ok (.iconst 0, 1) := by decide +kernel
theorem dX6_readEnd_48 : decode cX6_readEnd 48 = .ok (.ireturn, 1) := by decide +kernel
theorem dX6_readEnd_49 : decode cX6_readEnd 49 = .ok (.aload_n 0, 1) := by decide +kernel
theorem dX6_readEnd_50 : decode cX6_readEnd 50 = .ok (.dup, 1) := by decide +kernel
theorem dX6_readEnd_51 : decode cX6_readEnd 51 = .ok (.getfield 19, 3) := by decide +kernel
theorem dX6_readEnd_54 : decode cX6_readEnd 54 = .ok (.iconst 1, 1) := by decide +kernel
theorem dX6_readEnd_55 : decode cX6_readEnd 55 = .ok (.iadd, 1) := by decide +kernel
theorem dX6_readEnd_56 : decode cX6_readEnd 56 = .ok (.putfield 19, 3) := by decide +kernel
theorem dX6_readEnd_59 : decode cX6_readEnd 59 = .ok (.iconst 1, 1) := by decide +kernel
theorem dX6_readEnd_60 : decode cX6_readEnd 60 = .ok (.ireturn, 1) := by decide +kernel
theorem dX7_init_0 : decode cX7_init 0 = .ok (.aload_n 0, 1) := by decide +kernel
theorem dX7_init_1 : decode cX7_init 1 = .ok (.invokespecial 1, 3) := by decide +kernel
theorem dX7_init_4 : decode cX7_init 4 = .ok (.aload_n 0, 1) := by decide +kernel
theorem dX7_init_5 : decode cX7_init 5 = .ok (.new 7, 3) := by decide +kernel
theorem dX7_init_8 : decode cX7_init 8 = .ok (.dup, 1) := by decide +kernel
theorem dX7_init_9 : decode cX7_init 9 = .ok (.invokespecial 9, 3) := by decide +kernel
theorem dX7_init_12 : decode cX7_init 12 = .ok (.putfield 10, 3) := by decide +kernel
theorem dX7_init_15 : decode cX7_init 15 = .ok (.aload_n 0, 1) := by decide +kernel
theorem dX7_init_16 : decode cX7_init 16 = .ok (.new 16, 3) := by decide +kernel
theorem dX7_init_19 : decode cX7_init 19 = .ok (.dup, 1) := by decide +kernel
theorem dX7_init_20 : decode cX7_init 20 = .ok (.invokespecial 18, 3) := by decide +kernel
theorem dX7_init_23 : decode cX7_init 23 = .ok (.putfield 19, 3) := by decide +kernel
theorem dX7_init_26 : decode cX7_init 26 = .ok (.aload_n 0, 1) := by decide +kernel
theorem dX7_init_27 : decode cX7_init 27 = .ok (.new 23, 3) := by decide +kernel
theorem dX7_init_30 : decode cX7_init 30 = .ok (.dup, 1) := by decide +kernel
theorem dX7_init_31 : decode cX7_init 31 = .ok (.invokespecial 25, 3) := by decide +kernel
theorem dX7_init_34 : decode cX7_init 34 = .ok (.putfield 26, 3) := by decide +kernel
theorem dX7_init_37 : decode cX7_init 37 = .ok (.aload_n 0, 1) := by decide +kernel
theorem dX7_init_38 : decode cX7_init 38 = .ok (.new 30, 3) := by decide +kernel
theorem dX7_init_41 : decode cX7_init 41 = .ok (.dup, 1) := by decide +kernel
theorem dX7_init_42 : decode cX7_init 42 = .ok (.invokespecial 32, 3) := by decide +kernel
theorem dX7_init_45 : decode cX7_init 45 = .ok (.putfield 33, 3) := by decide +kernel
theorem dX7_init_48 : decode cX7_init 48 = .ok (.aload_n 0, 1) := by decide +kernel
theorem dX7_init_49 : decode cX7_init 49 = .ok (.new 37, 3) := by decide +kernel
theorem dX7_init_52 : decode cX7_init 52 = .ok (.dup, 1) := by decide +kernel
theorem dX7_init_53 : decode cX7_init 53 = .ok (.invokespecial 39, 3) := by decide +kernel
theorem dX7_init_56 : decode cX7_init 56 = .ok (.putfield 40, 3) := by decide +kernel
theorem dX7_init_59 : decode cX7_init 59 = .ok (.aload_n 0, 1) := by decide +kernel
theorem dX7_init_60 : decode cX7_init 60 = .ok (.new 44, 3) := by decide +kernel
theorem dX7_init_63 : decode cX7_init 63 = .ok (.dup, 1) := by decide +kernel
theorem dX7_init_64 : decode cX7_init 64 = .ok (.invokespecial 46, 3) := by decide +kernel
theorem dX7_init_67 : decode cX7_init 67 = .ok (.putfield 47, 3) := by decide +kernel
theorem dX7_init_70 : decode cX7_init 70 = .ok (.aload_n 0, 1) := by decide +kernel
theorem dX7_init_71 : decode cX7_init 71 = .ok (.iconst 2, 1) := by decide +kernel
theorem dX7_init_72 : decode cX7_init 72 = .ok (.anewarray 16, 3) := by decide +kernel
theorem dX7_init_75 : decode cX7_init 75 = .ok (.putfield 51, 3) := by decide +kernel
theorem dX7_init_78 : decode cX7_init 78 = .ok (.iconst 0, 1) := by decide +kernel
theorem dX7_init_79 : decode cX7_init 79 = .ok (.istore_n 1, 1) := by decide +kernel
theorem dX7_init_80 : decode cX7_init 80 = .ok (.iload_n 1, 1) := by decide +kernel
theorem dX7_init_81 : decode cX7_init 81 = .ok (.iconst 2, 1) := by decide +kernel
theorem dX7_init_82 : decode cX7_init 82 = .ok (.if_icmp .ge 22, 3) := by decide +kernel
theorem dX7_init_85 : decode cX7_init 85 = .ok (.aload_n 0, 1) := by decide +kernel
theorem dX7_init_86 : decode cX7_init 86 = .ok (.getfield 51, 3) := by decide +kernel
theorem dX7_init_89 : decode cX7_init 89 = .ok (.iload_n 1, 1) := by decide +kernel
theorem dX7_init_90 : decode cX7_init 90 = .ok (.new 16, 3) := by decide +kernel
theorem dX7_init_93 : decode cX7_init 93 = .ok (.dup, 1) := by decide +kernel
theorem dX7_init_94 : decode cX7_init 94 = .ok (.invokespecial 18, 3) := by decide +kernel
theorem dX7_init_97 : decode cX7_init 97 = .ok (.aastore, 1) := by decide +kernel
theorem dX7_init_98 : decode cX7_init 98 = .ok (.iinc 1 1, 3) := by decide +kernel
theorem dX7_init_101 : decode cX7_init 101 = .ok (.goto (-21), 3) := by decide +kernel
theorem dX7_init_104 : decode cX7_init 104 = .ok (.aload_n 0, 1) := by decide +kernel
theorem dX7_init_105 : decode cX7_init 105 = .ok (.iconst 2, 1) := by decide +kernel
theorem dX7_init_106 : decode cX7_init 106 = .ok (.newarray .boolean, 2) := by decide +kernel
theorem dX7_init_108 : decode cX7_init 108 = .ok (.putfield 55, 3) := by decide +kernel
theorem dX7_init_111 : decode cX7_init 111 = .ok (.aload_n 0, 1) := by decide +kernel
theorem dX7_init_112 : decode cX7_init 112 = .ok (.iconst 2, 1) := by decide +kernel
theorem dX7_init_113 : decode cX7_init 113 = .ok (.newarray .int, 2) := by decide +kernel
theorem dX7_init_115 : decode cX7_init 115 = .ok (.putfield 59, 3) := by decide +kernel
theorem dX7_init_118 : decode cX7_init 118 = .ok (.aload_n 0, 1) := by decide +kernel
theorem dX7_init_119 : decode cX7_init 119 = .ok (.bipush 7, 2) := by decide +kernel
theorem dX7_init_121 : decode cX7_init 121 = .ok (.newarray .int, 2) := by decide +kernel
theorem dX7_init_123 : decode cX7_init 123 = .ok (.putfield 63, 3) := by decide +kernel
theorem dX7_init_126 : decode cX7_init 126 = .ok (.aload_n 0, 1) := by decide +kernel
theorem dX7_init_127 : decode cX7_init 127 = .ok (.new 66, 3) := by decide +kernel
theorem dX7_init_130 : decode cX7_init 130 = .ok (.dup, 1) := by decide +kernel
theorem dX7_init_131 : decode cX7_init 131 = .ok (.invokespecial 68, 3) := by decide +kernel
theorem dX7_init_134 : decode cX7_init 134 = .ok (.putfield 69, 3) := by decide +kernel
theorem dX7_init_137 : decode cX7_init 137 = .ok (.aload_n 0, 1) := by decide +kernel
theorem dX7_init_138 : decode cX7_init 138 = .ok (.new 66, 3) := by decide +kernel
theorem dX7_init_141 : decode cX7_init 141 = .ok (.dup, 1) := by decide +kernel
theorem dX7_init_142 : decode cX7_init 142 = .ok (.invokespecial 68, 3) := by decide +kernel
theorem dX7_init_145 : decode cX7_init 145 = .ok (.putfield 73, 3) := by decide +kernel
theorem dX7_init_148 : decode cX7_init 148 = .ok (.aload_n 0, 1) := by decide +kernel
theorem dX7_init_149 : decode cX7_init 149 = .ok (.getfield 69, 3) := by decide +kernel
theorem dX7_init_152 : decode cX7_init 152 = .ok (.invokevirtual 76, 3) := by decide +kernel
theorem dX7_init_155 : decode cX7_init 155 = .ok (.aload_n 0, 1) := by decide +kernel
theorem dX7_init_156 : decode cX7_init 156 = .ok (.getfield 19, 3) := by decide +kernel
theorem dX7_init_159 : decode cX7_init 159 = .ok (.aload_n 0, 1) := by decide +kernel
theorem dX7_init_160 : decode cX7_init 160 = .ok (.getfield 69, 3) := by decide +kernel
theorem dX7_init_163 : decode cX7_init 163 = .ok (.invokevirtual 79, 3) := by decide +kernel
theorem dX7_init_166 : decode cX7_init 166 = .ok (.aload_n 0, 1) := by decide +kernel
theorem dX7_init_167 : decode cX7_init 167 = .ok (.iconst (-1), 1) := by decide +kernel
theorem dX7_init_168 : decode cX7_init 168 = .ok (.putfield 83, 3) := by decide +kernel
theorem dX7_init_171 : decode cX7_init 171 = .ok (.aload_n 0, 1) := by decide +kernel
theorem dX7_init_172 : decode cX7_init 172 = .ok (.iconst 0, 1) := by decide +kernel
theorem dX7_init_173 : decode cX7_init 173 = .ok (.putfield 87, 3) := by decide +kernel
theorem dX7_init_176 : decode cX7_init 176 = .ok (.return_, 1) := by decide +kernel
theorem dX7_feed_0 : decode cX7_feed 0 = .ok (.iload_n 1, 1) := by decide +kernel
theorem dX7_feed_1 : decode cX7_feed 1 = .ok (.ifCond .lt 10, 3) := by decide +kernel
theorem dX7_feed_4 : decode cX7_feed 4 = .ok (.iload_n 1, 1) := by decide +kernel
theorem dX7_feed_5 : decode cX7_feed 5 = .ok (.sipush 255, 3) := by decide +kernel
theorem dX7_feed_8 : decode cX7_feed 8 = .ok (.if_icmp .le 6, 3) := by decide +kernel
theorem dX7_feed_11 : decode cX7_feed 11 = .ok (.ldc 90, 2) := by decide +kernel
theorem dX7_feed_13 : decode cX7_feed 13 = .ok (.ireturn, 1) := by decide +kernel
theorem dX7_feed_14 : decode cX7_feed 14 = .ok (.aload_n 0, 1) := by decide +kernel
theorem dX7_feed_15 : decode cX7_feed 15 = .ok (.getfield 10, 3) := by decide +kernel
theorem dX7_feed_18 : decode cX7_feed 18 = .ok (.getfield 91, 3) := by decide +kernel
theorem dX7_feed_21 : decode cX7_feed 21 = .ok (.sipush 240, 3) := by decide +kernel
theorem dX7_feed_24 : decode cX7_feed 24 = .ok (.if_icmp .lt 6, 3) := by decide +kernel
theorem dX7_feed_27 : decode cX7_feed 27 = .ok (.ldc 94, 2) := by decide +kernel
theorem dX7_feed_29 : decode cX7_feed 29 = .ok (.ireturn, 1) := by decide +kernel
theorem dX7_feed_30 : decode cX7_feed 30 = .ok (.aload_n 0, 1) := by decide +kernel
theorem dX7_feed_31 : decode cX7_feed 31 = .ok (.getfield 10, 3) := by decide +kernel
theorem dX7_feed_34 : decode cX7_feed 34 = .ok (.iload_n 1, 1) := by decide +kernel
theorem dX7_feed_35 : decode cX7_feed 35 = .ok (.invokevirtual 95, 3) := by decide +kernel
theorem dX7_feed_38 : decode cX7_feed 38 = .ok (.ireturn, 1) := by decide +kernel
theorem dX7_common_0 : decode cX7_common 0 = .ok (.aload_n 0, 1) := by decide +kernel
theorem dX7_common_1 : decode cX7_common 1 = .ok (.getfield 10, 3) := by decide +kernel
theorem dX7_common_4 : decode cX7_common 4 = .ok (.aload_n 0, 1) := by decide +kernel
theorem dX7_common_5 : decode cX7_common 5 = .ok (.getfield 73, 3) := by decide +kernel
theorem dX7_common_8 : decode cX7_common 8 = .ok (.invokevirtual 99, 3) := by decide +kernel
theorem dX7_common_11 : decode cX7_common 11 = .ok (.istore_n 1, 1) := by decide +kernel
theorem dX7_common_12 : decode cX7_common 12 = .ok (.aload_n 0, 1) := by decide +kernel
theorem dX7_common_13 : decode cX7_common 13 = .ok (.aload_n 0, 1) := by decide +kernel
theorem dX7_common_14 : decode cX7_common 14 = .ok (.getfield 10, 3) := by decide +kernel
theorem dX7_common_17 : decode cX7_common 17 = .ok (.getfield 103, 3) := by decide +kernel
theorem dX7_common_20 : decode cX7_common 20 = .ok (.putfield 83, 3) := by decide +kernel
theorem dX7_common_23 : decode cX7_common 23 = .ok (.aload_n 0, 1) := by decide +kernel
theorem dX7_common_24 : decode cX7_common 24 = .ok (.getfield 10, 3) := by decide +kernel
theorem dX7_common_27 : decode cX7_common 27 = .ok (.iconst 0, 1) := by decide +kernel
theorem dX7_common_28 : decode cX7_common 28 = .ok (.putfield 91, 3) := by decide +kernel
theorem dX7_common_31 : decode cX7_common 31 = .ok (.iload_n 1, 1) := by decide +kernel
theorem dX7_common_32 : decode cX7_common 32 = .ok (.ifCond .eq 8, 3) := by decide +kernel
theorem dX7_common_35 : decode cX7_common 35 = .ok (.bipush (-10), 2) := by decide +kernel
theorem dX7_common_37 : decode cX7_common 37 = .ok (.iload_n 1, 1) := by decide +kernel
theorem dX7_common_38 : decode cX7_common 38 = .ok (.isub, 1) := by decide +kernel
theorem dX7_common_39 : decode cX7_common 39 = .ok (.ireturn, 1) := by decide +kernel
theorem dX7_common_40 : decode cX7_common 40 = .ok (.aload_n 0, 1) := by decide +kernel
theorem dX7_common_41 : decode cX7_common 41 = .ok (.getfield 69, 3) := by decide +kernel
theorem dX7_common_44 : decode cX7_common 44 = .ok (.astore_n 2, 1) := by decide +kernel
theorem dX7_common_45 : decode cX7_common 45 = .ok (.aload_n 0, 1) := by decide +kernel
theorem dX7_common_46 : decode cX7_common 46 = .ok (.aload_n 0, 1) := by decide +kernel
theorem dX7_common_47 : decode cX7_common 47 = .ok (.getfield 73, 3) := by decide +kernel
theorem dX7_common_50 : decode cX7_common 50 = .ok (.putfield 69, 3) := by decide +kernel
theorem dX7_common_53 : decode cX7_common 53 = .ok (.aload_n 0, 1) := by decide +kernel
theorem dX7_common_54 : decode cX7_common 54 = .ok (.aload_n 2, 1) := by decide +kernel
theorem dX7_common_55 : decode cX7_common 55 = .ok (.putfield 73, 3) := by decide +kernel
theorem dX7_common_58 : decode cX7_common 58 = .ok (.aload_n 0, 1) := by decide +kernel
theorem dX7_common_59 : decode cX7_common 59 = .ok (.getfield 19, 3) := by decide +kernel
theorem dX7_common_62 : decode cX7_common 62 = .ok (.aload_n 0, 1) := by decide +kernel
theorem dX7_common_63 : decode cX7_common 63 = .ok (.getfield 69, 3) := by decide +kernel
theorem dX7_common_66 : decode cX7_common 66 = .ok (.invokevirtual 79, 3) := by decide +kernel
theorem dX7_common_69 : decode cX7_common 69 = .ok (.aload_n 0, 1) := by decide +kernel
theorem dX7_common_70 : decode cX7_common 70 = .ok (.getfield 26, 3) := by decide +kernel
theorem dX7_common_73 : decode cX7_common 73 = .ok (.invokevirtual 106, 3) := by decide +kernel
theorem dX7_common_76 : decode cX7_common 76 = .ok (.aload_n 0, 1) := by decide +kernel
theorem dX7_common_77 : decode cX7_common 77 = .ok (.getfield 33, 3) := by decide +kernel
theorem dX7_common_80 : decode cX7_common 80 = .ok (.invokevirtual 109, 3) := by decide +kernel
theorem dX7_common_83 : decode cX7_common 83 = .ok (.iconst 0, 1) := by decide +kernel
theorem dX7_common_84 : decode cX7_common 84 = .ok (.istore_n 3, 1) := by decide +kernel
theorem dX7_common_85 : decode cX7_common 85 = .ok (.iload_n 3, 1) := by decide +kernel
theorem dX7_common_86 : decode cX7_common 86 = .ok (.iconst 2, 1) := by decide +kernel
theorem dX7_common_87 : decode cX7_common 87 = .ok (.if_icmp .ge 16, 3) := by decide +kernel
theorem dX7_common_90 : decode cX7_common 90 = .ok (.aload_n 0, 1) := by decide +kernel
theorem dX7_common_91 : decode cX7_common 91 = .ok (.getfield 55, 3) := by decide +kernel
theorem dX7_common_94 : decode cX7_common 94 = .ok (.iload_n 3, 1) := by decide +kernel
theorem dX7_common_95 : decode cX7_common 95 = .ok (.iconst 0, 1) := by decide +kernel
theorem dX7_common_96 : decode cX7_common 96 = .ok (.bastore, 1) := by decide +kernel
theorem dX7_common_97 : decode cX7_common 97 = .ok (.iinc 3 1, 3) := by decide +kernel
theorem dX7_common_100 : decode cX7_common 100 = .ok (.goto (-15), 3) := by decide +kernel
theorem dX7_common_103 : decode cX7_common 103 = .ok (.aload_n 0, 1) := by decide +kernel
theorem dX7_common_104 : decode cX7_common 104 = .ok (.getfield 69, 3) := by decide +kernel
theorem dX7_common_107 : decode cX7_common 107 = .ok (.getfield 110, 3) := by decide +kernel
theorem dX7_common_110 : decode cX7_common 110 = .ok (.ireturn, 1) := by decide +kernel
theorem dX7_fault_0 : decode cX7_fault 0 = .ok (.aload_n 0, 1) := by decide +kernel
theorem dX7_fault_1 : decode cX7_fault 1 = .ok (.getfield 83, 3) := by decide +kernel
theorem dX7_fault_4 : decode cX7_fault 4 = .ok (.ireturn, 1) := by decide +kernel
theorem dX7_told_0 : decode cX7_told 0 = .ok (.iload_n 1, 1) := by decide +kernel
theorem dX7_told_1 : decode cX7_told 1 = .ok (.tableswitch 191 0 13 #[71, 79, 87, 95, 103, 111, 119, 127, 135, 147, 159, 167, 175, 183], 71) := by decide +kernel
theorem dX7_told_72 : decode cX7_told 72 = .ok (.aload_n 0, 1) := by decide +kernel
theorem dX7_told_73 : decode cX7_told 73 = .ok (.getfield 69, 3) := by decide +kernel
theorem dX7_told_76 : decode cX7_told 76 = .ok (.getfield 113, 3) := by decide +kernel
theorem dX7_told_79 : decode cX7_told 79 = .ok (.ireturn, 1) := by decide +kernel
theorem dX7_told_80 : decode cX7_told 80 = .ok (.aload_n 0, 1) := by decide +kernel
theorem dX7_told_81 : decode cX7_told 81 = .ok (.getfield 69, 3) := by decide +kernel
theorem dX7_told_84 : decode cX7_told 84 = .ok (.getfield 110, 3) := by decide +kernel
theorem dX7_told_87 : decode cX7_told 87 = .ok (.ireturn, 1) := by decide +kernel
theorem dX7_told_88 : decode cX7_told 88 = .ok (.aload_n 0, 1) := by decide +kernel
theorem dX7_told_89 : decode cX7_told 89 = .ok (.getfield 10, 3) := by decide +kernel
theorem dX7_told_92 : decode cX7_told 92 = .ok (.getfield 91, 3) := by decide +kernel
theorem dX7_told_95 : decode cX7_told 95 = .ok (.ireturn, 1) := by decide +kernel
theorem dX7_told_96 : decode cX7_told 96 = .ok (.aload_n 0, 1) := by decide +kernel
theorem dX7_told_97 : decode cX7_told 97 = .ok (.getfield 19, 3) := by decide +kernel
theorem dX7_told_100 : decode cX7_told 100 = .ok (.getfield 116, 3) := by decide +kernel
theorem dX7_told_103 : decode cX7_told 103 = .ok (.ireturn, 1) := by decide +kernel
theorem dX7_told_104 : decode cX7_told 104 = .ok (.aload_n 0, 1) := by decide +kernel
theorem dX7_told_105 : decode cX7_told 105 = .ok (.getfield 19, 3) := by decide +kernel
theorem dX7_told_108 : decode cX7_told 108 = .ok (.getfield 119, 3) := by decide +kernel
theorem dX7_told_111 : decode cX7_told 111 = .ok (.ireturn, 1) := by decide +kernel
theorem dX7_told_112 : decode cX7_told 112 = .ok (.aload_n 0, 1) := by decide +kernel
theorem dX7_told_113 : decode cX7_told 113 = .ok (.getfield 19, 3) := by decide +kernel
theorem dX7_told_116 : decode cX7_told 116 = .ok (.getfield 122, 3) := by decide +kernel
theorem dX7_told_119 : decode cX7_told 119 = .ok (.ireturn, 1) := by decide +kernel
theorem dX7_told_120 : decode cX7_told 120 = .ok (.aload_n 0, 1) := by decide +kernel
theorem dX7_told_121 : decode cX7_told 121 = .ok (.getfield 19, 3) := by decide +kernel
theorem dX7_told_124 : decode cX7_told 124 = .ok (.getfield 125, 3) := by decide +kernel
theorem dX7_told_127 : decode cX7_told 127 = .ok (.ireturn, 1) := by decide +kernel
theorem dX7_told_128 : decode cX7_told 128 = .ok (.aload_n 0, 1) := by decide +kernel
theorem dX7_told_129 : decode cX7_told 129 = .ok (.getfield 19, 3) := by decide +kernel
theorem dX7_told_132 : decode cX7_told 132 = .ok (.getfield 128, 3) := by decide +kernel
theorem dX7_told_135 : decode cX7_told 135 = .ok (.ireturn, 1) := by decide +kernel
theorem dX7_told_136 : decode cX7_told 136 = .ok (.aload_n 0, 1) := by decide +kernel
theorem dX7_told_137 : decode cX7_told 137 = .ok (.getfield 19, 3) := by decide +kernel
theorem dX7_told_140 : decode cX7_told 140 = .ok (.aload_n 0, 1) := by decide +kernel
theorem dX7_told_141 : decode cX7_told 141 = .ok (.getfield 69, 3) := by decide +kernel
theorem dX7_told_144 : decode cX7_told 144 = .ok (.invokevirtual 131, 3) := by decide +kernel
theorem dX7_told_147 : decode cX7_told 147 = .ok (.ireturn, 1) := by decide +kernel
theorem dX7_told_148 : decode cX7_told 148 = .ok (.aload_n 0, 1) := by decide +kernel
theorem dX7_told_149 : decode cX7_told 149 = .ok (.getfield 19, 3) := by decide +kernel
theorem dX7_told_152 : decode cX7_told 152 = .ok (.aload_n 0, 1) := by decide +kernel
theorem dX7_told_153 : decode cX7_told 153 = .ok (.getfield 69, 3) := by decide +kernel
theorem dX7_told_156 : decode cX7_told 156 = .ok (.invokevirtual 134, 3) := by decide +kernel
theorem dX7_told_159 : decode cX7_told 159 = .ok (.ireturn, 1) := by decide +kernel
theorem dX7_told_160 : decode cX7_told 160 = .ok (.aload_n 0, 1) := by decide +kernel
theorem dX7_told_161 : decode cX7_told 161 = .ok (.getfield 19, 3) := by decide +kernel
theorem dX7_told_164 : decode cX7_told 164 = .ok (.getfield 137, 3) := by decide +kernel
theorem dX7_told_167 : decode cX7_told 167 = .ok (.ireturn, 1) := by decide +kernel
theorem dX7_told_168 : decode cX7_told 168 = .ok (.aload_n 0, 1) := by decide +kernel
theorem dX7_told_169 : decode cX7_told 169 = .ok (.getfield 33, 3) := by decide +kernel
theorem dX7_told_172 : decode cX7_told 172 = .ok (.getfield 140, 3) := by decide +kernel
theorem dX7_told_175 : decode cX7_told 175 = .ok (.ireturn, 1) := by decide +kernel
theorem dX7_told_176 : decode cX7_told 176 = .ok (.aload_n 0, 1) := by decide +kernel
theorem dX7_told_177 : decode cX7_told 177 = .ok (.getfield 33, 3) := by decide +kernel
theorem dX7_told_180 : decode cX7_told 180 = .ok (.getfield 143, 3) := by decide +kernel
theorem dX7_told_183 : decode cX7_told 183 = .ok (.ireturn, 1) := by decide +kernel
theorem dX7_told_184 : decode cX7_told 184 = .ok (.aload_n 0, 1) := by decide +kernel
theorem dX7_told_185 : decode cX7_told 185 = .ok (.getfield 26, 3) := by decide +kernel
theorem dX7_told_188 : decode cX7_told 188 = .ok (.getfield 146, 3) := by decide +kernel
theorem dX7_told_191 : decode cX7_told 191 = .ok (.ireturn, 1) := by decide +kernel
theorem dX7_told_192 : decode cX7_told 192 = .ok (.ldc 90, 2) := by decide +kernel
theorem dX7_told_194 : decode cX7_told 194 = .ok (.ireturn, 1) := by decide +kernel
theorem dX7_gate_0 : decode cX7_gate 0 = .ok (.aload_n 0, 1) := by decide +kernel
theorem dX7_gate_1 : decode cX7_gate 1 = .ok (.getfield 69, 3) := by decide +kernel
theorem dX7_gate_4 : decode cX7_gate 4 = .ok (.iload_n 1, 1) := by decide +kernel
theorem dX7_gate_5 : decode cX7_gate 5 = .ok (.invokevirtual 149, 3) := by decide +kernel
theorem dX7_gate_8 : decode cX7_gate 8 = .ok (.ifCond .ne 6, 3) := by decide +kernel
theorem dX7_gate_11 : decode cX7_gate 11 = .ok (.ldc 153, 2) := by decide +kernel
theorem dX7_gate_13 : decode cX7_gate 13 = .ok (.ireturn, 1) := by decide +kernel
theorem dX7_gate_14 : decode cX7_gate 14 = .ok (.iload_n 2, 1) := by decide +kernel
theorem dX7_gate_15 : decode cX7_gate 15 = .ok (.tableswitch 83 0 3 #[29, 39, 49, 70], 29) := by decide +kernel
theorem dX7_gate_44 : decode cX7_gate 44 = .ok (.aload_n 0, 1) := by decide +kernel
theorem dX7_gate_45 : decode cX7_gate 45 = .ok (.getfield 69, 3) := by decide +kernel
theorem dX7_gate_48 : decode cX7_gate 48 = .ok (.getfield 154, 3) := by decide +kernel
theorem dX7_gate_51 : decode cX7_gate 51 = .ok (.iload_n 1, 1) := by decide +kernel
theorem dX7_gate_52 : decode cX7_gate 52 = .ok (.iaload, 1) := by decide +kernel
theorem dX7_gate_53 : decode cX7_gate 53 = .ok (.ireturn, 1) := by decide +kernel
theorem dX7_gate_54 : decode cX7_gate 54 = .ok (.aload_n 0, 1) := by decide +kernel
theorem dX7_gate_55 : decode cX7_gate 55 = .ok (.getfield 19, 3) := by decide +kernel
theorem dX7_gate_58 : decode cX7_gate 58 = .ok (.getfield 157, 3) := by decide +kernel
theorem dX7_gate_61 : decode cX7_gate 61 = .ok (.iload_n 1, 1) := by decide +kernel
theorem dX7_gate_62 : decode cX7_gate 62 = .ok (.iaload, 1) := by decide +kernel
theorem dX7_gate_63 : decode cX7_gate 63 = .ok (.ireturn, 1) := by decide +kernel
theorem dX7_gate_64 : decode cX7_gate 64 = .ok (.aload_n 0, 1) := by decide +kernel
theorem dX7_gate_65 : decode cX7_gate 65 = .ok (.getfield 19, 3) := by decide +kernel
theorem dX7_gate_68 : decode cX7_gate 68 = .ok (.aload_n 0, 1) := by decide +kernel
theorem dX7_gate_69 : decode cX7_gate 69 = .ok (.getfield 69, 3) := by decide +kernel
theorem dX7_gate_72 : decode cX7_gate 72 = .ok (.iload_n 1, 1) := by decide +kernel
theorem dX7_gate_73 : decode cX7_gate 73 = .ok (.invokevirtual 160, 3) := by decide +kernel
theorem dX7_gate_76 : decode cX7_gate 76 = .ok (.ifCond .eq 7, 3) := by decide +kernel
theorem dX7_gate_79 : decode cX7_gate 79 = .ok (.iconst 1, 1) := by decide +kernel
theorem dX7_gate_80 : decode cX7_gate 80 = .ok (.goto 4, 3) := by decide +kernel
theorem dX7_gate_83 : decode cX7_gate 83 = .ok (.iconst 0, 1) := by decide +kernel
theorem dX7_gate_84 : decode cX7_gate 84 = .ok (.ireturn, 1) := by decide +kernel
theorem dX7_gate_85 : decode cX7_gate 85 = .ok (.aload_n 0, 1) := by decide +kernel
theorem dX7_gate_86 : decode cX7_gate 86 = .ok (.getfield 19, 3) := by decide +kernel
theorem dX7_gate_89 : decode cX7_gate 89 = .ok (.aload_n 0, 1) := by decide +kernel
theorem dX7_gate_90 : decode cX7_gate 90 = .ok (.getfield 69, 3) := by decide +kernel
theorem dX7_gate_93 : decode cX7_gate 93 = .ok (.iload_n 1, 1) := by decide +kernel
theorem dX7_gate_94 : decode cX7_gate 94 = .ok (.invokevirtual 164, 3) := by decide +kernel
theorem dX7_gate_97 : decode cX7_gate 97 = .ok (.ireturn, 1) := by decide +kernel
theorem dX7_gate_98 : decode cX7_gate 98 = .ok (.ldc 90, 2) := by decide +kernel
theorem dX7_gate_100 : decode cX7_gate 100 = .ok (.ireturn, 1) := by decide +kernel
theorem dX7_person_0 : decode cX7_person 0 = .ok (.aload_n 0, 1) := by decide +kernel
theorem dX7_person_1 : decode cX7_person 1 = .ok (.getfield 69, 3) := by decide +kernel
theorem dX7_person_4 : decode cX7_person 4 = .ok (.iload_n 1, 1) := by decide +kernel
theorem dX7_person_5 : decode cX7_person 5 = .ok (.invokevirtual 168, 3) := by decide +kernel
theorem dX7_person_8 : decode cX7_person 8 = .ok (.ifCond .ne 6, 3) := by decide +kernel
theorem dX7_person_11 : decode cX7_person 11 = .ok (.ldc 153, 2) := by decide +kernel
theorem dX7_person_13 : decode cX7_person 13 = .ok (.ireturn, 1) := by decide +kernel
theorem dX7_person_14 : decode cX7_person 14 = .ok (.iload_n 2, 1) := by decide +kernel
theorem dX7_person_15 : decode cX7_person 15 = .ok (.tableswitch 79 0 3 #[29, 41, 51, 63], 29) := by decide +kernel
theorem dX7_person_44 : decode cX7_person 44 = .ok (.aload_n 0, 1) := by decide +kernel
theorem dX7_person_45 : decode cX7_person 45 = .ok (.getfield 19, 3) := by decide +kernel
theorem dX7_person_48 : decode cX7_person 48 = .ok (.getfield 125, 3) := by decide +kernel
theorem dX7_person_51 : decode cX7_person 51 = .ok (.iload_n 1, 1) := by decide +kernel
theorem dX7_person_52 : decode cX7_person 52 = .ok (.ishr, 1) := by decide +kernel
theorem dX7_person_53 : decode cX7_person 53 = .ok (.iconst 1, 1) := by decide +kernel
theorem dX7_person_54 : decode cX7_person 54 = .ok (.iand, 1) := by decide +kernel
theorem dX7_person_55 : decode cX7_person 55 = .ok (.ireturn, 1) := by decide +kernel
theorem dX7_person_56 : decode cX7_person 56 = .ok (.aload_n 0, 1) := by decide +kernel
theorem dX7_person_57 : decode cX7_person 57 = .ok (.getfield 19, 3) := by decide +kernel
theorem dX7_person_60 : decode cX7_person 60 = .ok (.getfield 171, 3) := by decide +kernel
theorem dX7_person_63 : decode cX7_person 63 = .ok (.iload_n 1, 1) := by decide +kernel
theorem dX7_person_64 : decode cX7_person 64 = .ok (.iaload, 1) := by decide +kernel
theorem dX7_person_65 : decode cX7_person 65 = .ok (.ireturn, 1) := by decide +kernel
theorem dX7_person_66 : decode cX7_person 66 = .ok (.aload_n 0, 1) := by decide +kernel
theorem dX7_person_67 : decode cX7_person 67 = .ok (.getfield 19, 3) := by decide +kernel
theorem dX7_person_70 : decode cX7_person 70 = .ok (.getfield 128, 3) := by decide +kernel
theorem dX7_person_73 : decode cX7_person 73 = .ok (.iload_n 1, 1) := by decide +kernel
theorem dX7_person_74 : decode cX7_person 74 = .ok (.ishr, 1) := by decide +kernel
theorem dX7_person_75 : decode cX7_person 75 = .ok (.iconst 1, 1) := by decide +kernel
theorem dX7_person_76 : decode cX7_person 76 = .ok (.iand, 1) := by decide +kernel
theorem dX7_person_77 : decode cX7_person 77 = .ok (.ireturn, 1) := by decide +kernel
theorem dX7_person_78 : decode cX7_person 78 = .ok (.aload_n 0, 1) := by decide +kernel
theorem dX7_person_79 : decode cX7_person 79 = .ok (.getfield 69, 3) := by decide +kernel
theorem dX7_person_82 : decode cX7_person 82 = .ok (.iload_n 1, 1) := by decide +kernel
theorem dX7_person_83 : decode cX7_person 83 = .ok (.aload_n 0, 1) := by decide +kernel
theorem dX7_person_84 : decode cX7_person 84 = .ok (.getfield 19, 3) := by decide +kernel
theorem dX7_person_87 : decode cX7_person 87 = .ok (.getfield 125, 3) := by decide +kernel
theorem dX7_person_90 : decode cX7_person 90 = .ok (.invokevirtual 174, 3) := by decide +kernel
theorem dX7_person_93 : decode cX7_person 93 = .ok (.ireturn, 1) := by decide +kernel
theorem dX7_person_94 : decode cX7_person 94 = .ok (.ldc 90, 2) := by decide +kernel
theorem dX7_person_96 : decode cX7_person 96 = .ok (.ireturn, 1) := by decide +kernel
theorem dX7_likes_0 : decode cX7_likes 0 = .ok (.aload_n 0, 1) := by decide +kernel
theorem dX7_likes_1 : decode cX7_likes 1 = .ok (.getfield 69, 3) := by decide +kernel
theorem dX7_likes_4 : decode cX7_likes 4 = .ok (.iload_n 1, 1) := by decide +kernel
theorem dX7_likes_5 : decode cX7_likes 5 = .ok (.invokevirtual 168, 3) := by decide +kernel
theorem dX7_likes_8 : decode cX7_likes 8 = .ok (.ifCond .eq 19, 3) := by decide +kernel
theorem dX7_likes_11 : decode cX7_likes 11 = .ok (.aload_n 0, 1) := by decide +kernel
theorem dX7_likes_12 : decode cX7_likes 12 = .ok (.getfield 69, 3) := by decide +kernel
theorem dX7_likes_15 : decode cX7_likes 15 = .ok (.iload_n 2, 1) := by decide +kernel
theorem dX7_likes_16 : decode cX7_likes 16 = .ok (.invokevirtual 168, 3) := by decide +kernel
theorem dX7_likes_19 : decode cX7_likes 19 = .ok (.ifCond .eq 8, 3) := by decide +kernel
theorem dX7_likes_22 : decode cX7_likes 22 = .ok (.iload_n 1, 1) := by decide +kernel
theorem dX7_likes_23 : decode cX7_likes 23 = .ok (.iload_n 2, 1) := by decide +kernel
theorem dX7_likes_24 : decode cX7_likes 24 = .ok (.if_icmp .ne 6, 3) := by decide +kernel
theorem dX7_likes_27 : decode cX7_likes 27 = .ok (.ldc 153, 2) := by decide +kernel
theorem dX7_likes_29 : decode cX7_likes 29 = .ok (.ireturn, 1) := by decide +kernel
theorem dX7_likes_30 : decode cX7_likes 30 = .ok (.aload_n 0, 1) := by decide +kernel
theorem dX7_likes_31 : decode cX7_likes 31 = .ok (.getfield 69, 3) := by decide +kernel
theorem dX7_likes_34 : decode cX7_likes 34 = .ok (.iload_n 1, 1) := by decide +kernel
theorem dX7_likes_35 : decode cX7_likes 35 = .ok (.iload_n 2, 1) := by decide +kernel
theorem dX7_likes_36 : decode cX7_likes 36 = .ok (.invokevirtual 178, 3) := by decide +kernel
theorem dX7_likes_39 : decode cX7_likes 39 = .ok (.ireturn, 1) := by decide +kernel
theorem dX7_logged_0 : decode cX7_logged 0 = .ok (.iload_n 1, 1) := by decide +kernel
theorem dX7_logged_1 : decode cX7_logged 1 = .ok (.ifCond .lt 14, 3) := by decide +kernel
theorem dX7_logged_4 : decode cX7_logged 4 = .ok (.iload_n 1, 1) := by decide +kernel
theorem dX7_logged_5 : decode cX7_logged 5 = .ok (.aload_n 0, 1) := by decide +kernel
theorem dX7_logged_6 : decode cX7_logged 6 = .ok (.getfield 19, 3) := by decide +kernel
theorem dX7_logged_9 : decode cX7_logged 9 = .ok (.getfield 137, 3) := by decide +kernel
theorem dX7_logged_12 : decode cX7_logged 12 = .ok (.if_icmp .lt 5, 3) := by decide +kernel
theorem dX7_logged_15 : decode cX7_logged 15 = .ok (.iconst (-1), 1) := by decide +kernel
theorem dX7_logged_16 : decode cX7_logged 16 = .ok (.ireturn, 1) := by decide +kernel
theorem dX7_logged_17 : decode cX7_logged 17 = .ok (.aload_n 0, 1) := by decide +kernel
theorem dX7_logged_18 : decode cX7_logged 18 = .ok (.getfield 19, 3) := by decide +kernel
theorem dX7_logged_21 : decode cX7_logged 21 = .ok (.getfield 181, 3) := by decide +kernel
theorem dX7_logged_24 : decode cX7_logged 24 = .ok (.aload_n 0, 1) := by decide +kernel
theorem dX7_logged_25 : decode cX7_logged 25 = .ok (.getfield 19, 3) := by decide +kernel
theorem dX7_logged_28 : decode cX7_logged 28 = .ok (.getfield 137, 3) := by decide +kernel
theorem dX7_logged_31 : decode cX7_logged 31 = .ok (.iconst 1, 1) := by decide +kernel
theorem dX7_logged_32 : decode cX7_logged 32 = .ok (.isub, 1) := by decide +kernel
theorem dX7_logged_33 : decode cX7_logged 33 = .ok (.iload_n 1, 1) := by decide +kernel
theorem dX7_logged_34 : decode cX7_logged 34 = .ok (.isub, 1) := by decide +kernel
theorem dX7_logged_35 : decode cX7_logged 35 = .ok (.iaload, 1) := by decide +kernel
theorem dX7_logged_36 : decode cX7_logged 36 = .ok (.ireturn, 1) := by decide +kernel
theorem dX7_hour_0 : decode cX7_hour 0 = .ok (.aload_n 0, 1) := by decide +kernel
theorem dX7_hour_1 : decode cX7_hour 1 = .ok (.iload_n 1, 1) := by decide +kernel
theorem dX7_hour_2 : decode cX7_hour 2 = .ok (.invokevirtual 184, 3) := by decide +kernel
theorem dX7_hour_5 : decode cX7_hour 5 = .ok (.istore_n 2, 1) := by decide +kernel
theorem dX7_hour_6 : decode cX7_hour 6 = .ok (.iload_n 2, 1) := by decide +kernel
theorem dX7_hour_7 : decode cX7_hour 7 = .ok (.ifCond .eq 5, 3) := by decide +kernel
theorem dX7_hour_10 : decode cX7_hour 10 = .ok (.iload_n 2, 1) := by decide +kernel
theorem dX7_hour_11 : decode cX7_hour 11 = .ok (.ireturn, 1) := by decide +kernel
theorem dX7_hour_12 : decode cX7_hour 12 = .ok (.aload_n 0, 1) := by decide +kernel
theorem dX7_hour_13 : decode cX7_hour 13 = .ok (.getfield 26, 3) := by decide +kernel
theorem dX7_hour_16 : decode cX7_hour 16 = .ok (.aload_n 0, 1) := by decide +kernel
theorem dX7_hour_17 : decode cX7_hour 17 = .ok (.getfield 19, 3) := by decide +kernel
theorem dX7_hour_20 : decode cX7_hour 20 = .ok (.invokevirtual 187, 3) := by decide +kernel
theorem dX7_hour_23 : decode cX7_hour 23 = .ok (.iconst 0, 1) := by decide +kernel
theorem dX7_hour_24 : decode cX7_hour 24 = .ok (.istore_n 3, 1) := by decide +kernel
theorem dX7_hour_25 : decode cX7_hour 25 = .ok (.iload_n 3, 1) := by decide +kernel
theorem dX7_hour_26 : decode cX7_hour 26 = .ok (.iload_n 1, 1) := by decide +kernel
theorem dX7_hour_27 : decode cX7_hour 27 = .ok (.if_icmp .ge 20, 3) := by decide +kernel
theorem dX7_hour_30 : decode cX7_hour 30 = .ok (.aload_n 0, 1) := by decide +kernel
theorem dX7_hour_31 : decode cX7_hour 31 = .ok (.getfield 19, 3) := by decide +kernel
theorem dX7_hour_34 : decode cX7_hour 34 = .ok (.aload_n 0, 1) := by decide +kernel
theorem dX7_hour_35 : decode cX7_hour 35 = .ok (.getfield 69, 3) := by decide +kernel
theorem dX7_hour_38 : decode cX7_hour 38 = .ok (.invokevirtual 191, 3) := by decide +kernel
theorem dX7_hour_41 : decode cX7_hour 41 = .ok (.iinc 3 1, 3) := by decide +kernel
theorem dX7_hour_44 : decode cX7_hour 44 = .ok (.goto (-19), 3) := by decide +kernel
theorem dX7_hour_47 : decode cX7_hour 47 = .ok (.aload_n 0, 1) := by decide +kernel
theorem dX7_hour_48 : decode cX7_hour 48 = .ok (.getfield 19, 3) := by decide +kernel
theorem dX7_hour_51 : decode cX7_hour 51 = .ok (.getfield 116, 3) := by decide +kernel
theorem dX7_hour_54 : decode cX7_hour 54 = .ok (.ireturn, 1) := by decide +kernel
theorem dX7_come_0 : decode cX7_come 0 = .ok (.aload_n 0, 1) := by decide +kernel
theorem dX7_come_1 : decode cX7_come 1 = .ok (.getfield 69, 3) := by decide +kernel
theorem dX7_come_4 : decode cX7_come 4 = .ok (.iload_n 1, 1) := by decide +kernel
theorem dX7_come_5 : decode cX7_come 5 = .ok (.invokevirtual 168, 3) := by decide +kernel
theorem dX7_come_8 : decode cX7_come 8 = .ok (.ifCond .eq 14, 3) := by decide +kernel
theorem dX7_come_11 : decode cX7_come 11 = .ok (.aload_n 0, 1) := by decide +kernel
theorem dX7_come_12 : decode cX7_come 12 = .ok (.getfield 69, 3) := by decide +kernel
theorem dX7_come_15 : decode cX7_come 15 = .ok (.iload_n 2, 1) := by decide +kernel
theorem dX7_come_16 : decode cX7_come 16 = .ok (.invokevirtual 149, 3) := by decide +kernel
theorem dX7_come_19 : decode cX7_come 19 = .ok (.ifCond .ne 6, 3) := by decide +kernel
theorem dX7_come_22 : decode cX7_come 22 = .ok (.ldc 153, 2) := by decide +kernel
theorem dX7_come_24 : decode cX7_come 24 = .ok (.ireturn, 1) := by decide +kernel
theorem dX7_come_25 : decode cX7_come 25 = .ok (.aload_n 0, 1) := by decide +kernel
theorem dX7_come_26 : decode cX7_come 26 = .ok (.getfield 19, 3) := by decide +kernel
theorem dX7_come_29 : decode cX7_come 29 = .ok (.aload_n 0, 1) := by decide +kernel
theorem dX7_come_30 : decode cX7_come 30 = .ok (.getfield 69, 3) := by decide +kernel
theorem dX7_come_33 : decode cX7_come 33 = .ok (.iload_n 2, 1) := by decide +kernel
theorem dX7_come_34 : decode cX7_come 34 = .ok (.invokevirtual 160, 3) := by decide +kernel
theorem dX7_come_37 : decode cX7_come 37 = .ok (.ifCond .ne 16, 3) := by decide +kernel
theorem dX7_come_40 : decode cX7_come 40 = .ok (.aload_n 0, 1) := by decide +kernel
theorem dX7_come_41 : decode cX7_come 41 = .ok (.getfield 19, 3) := by decide +kernel
theorem dX7_come_44 : decode cX7_come 44 = .ok (.getfield 171, 3) := by decide +kernel
theorem dX7_come_47 : decode cX7_come 47 = .ok (.iload_n 1, 1) := by decide +kernel
theorem dX7_come_48 : decode cX7_come 48 = .ok (.iaload, 1) := by decide +kernel
theorem dX7_come_49 : decode cX7_come 49 = .ok (.iload_n 2, 1) := by decide +kernel
theorem dX7_come_50 : decode cX7_come 50 = .ok (.if_icmp .ne 6, 3) := by decide +kernel
theorem dX7_come_53 : decode cX7_come 53 = .ok (.ldc 194, 2) := by decide +kernel
theorem dX7_come_55 : decode cX7_come 55 = .ok (.ireturn, 1) := by decide +kernel
theorem dX7_come_56 : decode cX7_come 56 = .ok (.aload_n 0, 1) := by decide +kernel
theorem dX7_come_57 : decode cX7_come 57 = .ok (.getfield 26, 3) := by decide +kernel
theorem dX7_come_60 : decode cX7_come 60 = .ok (.aload_n 0, 1) := by decide +kernel
theorem dX7_come_61 : decode cX7_come 61 = .ok (.getfield 19, 3) := by decide +kernel
theorem dX7_come_64 : decode cX7_come 64 = .ok (.invokevirtual 187, 3) := by decide +kernel
theorem dX7_come_67 : decode cX7_come 67 = .ok (.aload_n 0, 1) := by decide +kernel
theorem dX7_come_68 : decode cX7_come 68 = .ok (.getfield 19, 3) := by decide +kernel
theorem dX7_come_71 : decode cX7_come 71 = .ok (.getfield 171, 3) := by decide +kernel
theorem dX7_come_74 : decode cX7_come 74 = .ok (.iload_n 1, 1) := by decide +kernel
theorem dX7_come_75 : decode cX7_come 75 = .ok (.iload_n 2, 1) := by decide +kernel
theorem dX7_come_76 : decode cX7_come 76 = .ok (.iastore, 1) := by decide +kernel
theorem dX7_come_77 : decode cX7_come 77 = .ok (.aload_n 0, 1) := by decide +kernel
theorem dX7_come_78 : decode cX7_come 78 = .ok (.getfield 19, 3) := by decide +kernel
theorem dX7_come_81 : decode cX7_come 81 = .ok (.aload_n 0, 1) := by decide +kernel
theorem dX7_come_82 : decode cX7_come 82 = .ok (.getfield 69, 3) := by decide +kernel
theorem dX7_come_85 : decode cX7_come 85 = .ok (.iload_n 2, 1) := by decide +kernel
theorem dX7_come_86 : decode cX7_come 86 = .ok (.invokevirtual 164, 3) := by decide +kernel
theorem dX7_come_89 : decode cX7_come 89 = .ok (.ireturn, 1) := by decide +kernel
theorem dX7_goOff_0 : decode cX7_goOff 0 = .ok (.aload_n 0, 1) := by decide +kernel
theorem dX7_goOff_1 : decode cX7_goOff 1 = .ok (.getfield 69, 3) := by decide +kernel
theorem dX7_goOff_4 : decode cX7_goOff 4 = .ok (.iload_n 1, 1) := by decide +kernel
theorem dX7_goOff_5 : decode cX7_goOff 5 = .ok (.invokevirtual 168, 3) := by decide +kernel
theorem dX7_goOff_8 : decode cX7_goOff 8 = .ok (.ifCond .ne 6, 3) := by decide +kernel
theorem dX7_goOff_11 : decode cX7_goOff 11 = .ok (.ldc 153, 2) := by decide +kernel
theorem dX7_goOff_13 : decode cX7_goOff 13 = .ok (.ireturn, 1) := by decide +kernel
theorem dX7_goOff_14 : decode cX7_goOff 14 = .ok (.aload_n 0, 1) := by decide +kernel
theorem dX7_goOff_15 : decode cX7_goOff 15 = .ok (.getfield 19, 3) := by decide +kernel
theorem dX7_goOff_18 : decode cX7_goOff 18 = .ok (.getfield 171, 3) := by decide +kernel
theorem dX7_goOff_21 : decode cX7_goOff 21 = .ok (.iload_n 1, 1) := by decide +kernel
theorem dX7_goOff_22 : decode cX7_goOff 22 = .ok (.iaload, 1) := by decide +kernel
theorem dX7_goOff_23 : decode cX7_goOff 23 = .ok (.istore_n 2, 1) := by decide +kernel
theorem dX7_goOff_24 : decode cX7_goOff 24 = .ok (.iload_n 2, 1) := by decide +kernel
theorem dX7_goOff_25 : decode cX7_goOff 25 = .ok (.iconst (-1), 1) := by decide +kernel
theorem dX7_goOff_26 : decode cX7_goOff 26 = .ok (.if_icmp .ne 6, 3) := by decide +kernel
theorem dX7_goOff_29 : decode cX7_goOff 29 = .ok (.ldc 194, 2) := by decide +kernel
theorem dX7_goOff_31 : decode cX7_goOff 31 = .ok (.ireturn, 1) := by decide +kernel
theorem dX7_goOff_32 : decode cX7_goOff 32 = .ok (.aload_n 0, 1) := by decide +kernel
theorem dX7_goOff_33 : decode cX7_goOff 33 = .ok (.getfield 26, 3) := by decide +kernel
theorem dX7_goOff_36 : decode cX7_goOff 36 = .ok (.aload_n 0, 1) := by decide +kernel
theorem dX7_goOff_37 : decode cX7_goOff 37 = .ok (.getfield 19, 3) := by decide +kernel
theorem dX7_goOff_40 : decode cX7_goOff 40 = .ok (.invokevirtual 187, 3) := by decide +kernel
theorem dX7_goOff_43 : decode cX7_goOff 43 = .ok (.aload_n 0, 1) := by decide +kernel
theorem dX7_goOff_44 : decode cX7_goOff 44 = .ok (.getfield 19, 3) := by decide +kernel
theorem dX7_goOff_47 : decode cX7_goOff 47 = .ok (.getfield 171, 3) := by decide +kernel
theorem dX7_goOff_50 : decode cX7_goOff 50 = .ok (.iload_n 1, 1) := by decide +kernel
theorem dX7_goOff_51 : decode cX7_goOff 51 = .ok (.iconst (-1), 1) := by decide +kernel
theorem dX7_goOff_52 : decode cX7_goOff 52 = .ok (.iastore, 1) := by decide +kernel
theorem dX7_goOff_53 : decode cX7_goOff 53 = .ok (.iload_n 2, 1) := by decide +kernel
theorem dX7_goOff_54 : decode cX7_goOff 54 = .ok (.ireturn, 1) := by decide +kernel
theorem dX7_hole_0 : decode cX7_hole 0 = .ok (.aload_n 0, 1) := by decide +kernel
theorem dX7_hole_1 : decode cX7_hole 1 = .ok (.getfield 69, 3) := by decide +kernel
theorem dX7_hole_4 : decode cX7_hole 4 = .ok (.iload_n 1, 1) := by decide +kernel
theorem dX7_hole_5 : decode cX7_hole 5 = .ok (.invokevirtual 168, 3) := by decide +kernel
theorem dX7_hole_8 : decode cX7_hole 8 = .ok (.ifCond .ne 6, 3) := by decide +kernel
theorem dX7_hole_11 : decode cX7_hole 11 = .ok (.ldc 153, 2) := by decide +kernel
theorem dX7_hole_13 : decode cX7_hole 13 = .ok (.ireturn, 1) := by decide +kernel
theorem dX7_hole_14 : decode cX7_hole 14 = .ok (.aload_n 0, 1) := by decide +kernel
theorem dX7_hole_15 : decode cX7_hole 15 = .ok (.getfield 19, 3) := by decide +kernel
theorem dX7_hole_18 : decode cX7_hole 18 = .ok (.getfield 171, 3) := by decide +kernel
theorem dX7_hole_21 : decode cX7_hole 21 = .ok (.iload_n 1, 1) := by decide +kernel
theorem dX7_hole_22 : decode cX7_hole 22 = .ok (.iaload, 1) := by decide +kernel
theorem dX7_hole_23 : decode cX7_hole 23 = .ok (.iconst (-1), 1) := by decide +kernel
theorem dX7_hole_24 : decode cX7_hole 24 = .ok (.if_icmp .eq 6, 3) := by decide +kernel
theorem dX7_hole_27 : decode cX7_hole 27 = .ok (.ldc 194, 2) := by decide +kernel
theorem dX7_hole_29 : decode cX7_hole 29 = .ok (.ireturn, 1) := by decide +kernel
theorem dX7_hole_30 : decode cX7_hole 30 = .ok (.aload_n 0, 1) := by decide +kernel
theorem dX7_hole_31 : decode cX7_hole 31 = .ok (.getfield 26, 3) := by decide +kernel
theorem dX7_hole_34 : decode cX7_hole 34 = .ok (.aload_n 0, 1) := by decide +kernel
theorem dX7_hole_35 : decode cX7_hole 35 = .ok (.getfield 19, 3) := by decide +kernel
theorem dX7_hole_38 : decode cX7_hole 38 = .ok (.invokevirtual 187, 3) := by decide +kernel
theorem dX7_hole_41 : decode cX7_hole 41 = .ok (.aload_n 0, 1) := by decide +kernel
theorem dX7_hole_42 : decode cX7_hole 42 = .ok (.getfield 19, 3) := by decide +kernel
theorem dX7_hole_45 : decode cX7_hole 45 = .ok (.dup, 1) := by decide +kernel
theorem dX7_hole_46 : decode cX7_hole 46 = .ok (.getfield 125, 3) := by decide +kernel
theorem dX7_hole_49 : decode cX7_hole 49 = .ok (.iconst 1, 1) := by decide +kernel
theorem dX7_hole_50 : decode cX7_hole 50 = .ok (.iload_n 1, 1) := by decide +kernel
theorem dX7_hole_51 : decode cX7_hole 51 = .ok (.ishl, 1) := by decide +kernel
theorem dX7_hole_52 : decode cX7_hole 52 = .ok (.ixor, 1) := by decide +kernel
theorem dX7_hole_53 : decode cX7_hole 53 = .ok (.putfield 125, 3) := by decide +kernel
theorem dX7_hole_56 : decode cX7_hole 56 = .ok (.aload_n 0, 1) := by decide +kernel
theorem dX7_hole_57 : decode cX7_hole 57 = .ok (.getfield 19, 3) := by decide +kernel
theorem dX7_hole_60 : decode cX7_hole 60 = .ok (.dup, 1) := by decide +kernel
theorem dX7_hole_61 : decode cX7_hole 61 = .ok (.getfield 122, 3) := by decide +kernel
theorem dX7_hole_64 : decode cX7_hole 64 = .ok (.iconst 1, 1) := by decide +kernel
theorem dX7_hole_65 : decode cX7_hole 65 = .ok (.iadd, 1) := by decide +kernel
theorem dX7_hole_66 : decode cX7_hole 66 = .ok (.putfield 122, 3) := by decide +kernel
theorem dX7_hole_69 : decode cX7_hole 69 = .ok (.aload_n 0, 1) := by decide +kernel
theorem dX7_hole_70 : decode cX7_hole 70 = .ok (.getfield 19, 3) := by decide +kernel
theorem dX7_hole_73 : decode cX7_hole 73 = .ok (.getfield 125, 3) := by decide +kernel
theorem dX7_hole_76 : decode cX7_hole 76 = .ok (.iload_n 1, 1) := by decide +kernel
theorem dX7_hole_77 : decode cX7_hole 77 = .ok (.ishr, 1) := by decide +kernel
theorem dX7_hole_78 : decode cX7_hole 78 = .ok (.iconst 1, 1) := by decide +kernel
theorem dX7_hole_79 : decode cX7_hole 79 = .ok (.iand, 1) := by decide +kernel
theorem dX7_hole_80 : decode cX7_hole 80 = .ok (.ireturn, 1) := by decide +kernel
theorem dX7_oil_0 : decode cX7_oil 0 = .ok (.aload_n 0, 1) := by decide +kernel
theorem dX7_oil_1 : decode cX7_oil 1 = .ok (.getfield 69, 3) := by decide +kernel
theorem dX7_oil_4 : decode cX7_oil 4 = .ok (.iload_n 1, 1) := by decide +kernel
theorem dX7_oil_5 : decode cX7_oil 5 = .ok (.invokevirtual 149, 3) := by decide +kernel
theorem dX7_oil_8 : decode cX7_oil 8 = .ok (.ifCond .ne 6, 3) := by decide +kernel
theorem dX7_oil_11 : decode cX7_oil 11 = .ok (.ldc 153, 2) := by decide +kernel
theorem dX7_oil_13 : decode cX7_oil 13 = .ok (.ireturn, 1) := by decide +kernel
theorem dX7_oil_14 : decode cX7_oil 14 = .ok (.aload_n 0, 1) := by decide +kernel
theorem dX7_oil_15 : decode cX7_oil 15 = .ok (.getfield 19, 3) := by decide +kernel
theorem dX7_oil_18 : decode cX7_oil 18 = .ok (.aload_n 0, 1) := by decide +kernel
theorem dX7_oil_19 : decode cX7_oil 19 = .ok (.getfield 69, 3) := by decide +kernel
theorem dX7_oil_22 : decode cX7_oil 22 = .ok (.iload_n 1, 1) := by decide +kernel
theorem dX7_oil_23 : decode cX7_oil 23 = .ok (.invokevirtual 160, 3) := by decide +kernel
theorem dX7_oil_26 : decode cX7_oil 26 = .ok (.ifCond .eq 7, 3) := by decide +kernel
theorem dX7_oil_29 : decode cX7_oil 29 = .ok (.iconst 1, 1) := by decide +kernel
theorem dX7_oil_30 : decode cX7_oil 30 = .ok (.goto 4, 3) := by decide +kernel
theorem dX7_oil_33 : decode cX7_oil 33 = .ok (.iconst 0, 1) := by decide +kernel
theorem dX7_oil_34 : decode cX7_oil 34 = .ok (.istore_n 2, 1) := by decide +kernel
theorem dX7_oil_35 : decode cX7_oil 35 = .ok (.aload_n 0, 1) := by decide +kernel
theorem dX7_oil_36 : decode cX7_oil 36 = .ok (.getfield 26, 3) := by decide +kernel
theorem dX7_oil_39 : decode cX7_oil 39 = .ok (.aload_n 0, 1) := by decide +kernel
theorem dX7_oil_40 : decode cX7_oil 40 = .ok (.getfield 19, 3) := by decide +kernel
theorem dX7_oil_43 : decode cX7_oil 43 = .ok (.invokevirtual 187, 3) := by decide +kernel
theorem dX7_oil_46 : decode cX7_oil 46 = .ok (.aload_n 0, 1) := by decide +kernel
theorem dX7_oil_47 : decode cX7_oil 47 = .ok (.getfield 19, 3) := by decide +kernel
theorem dX7_oil_50 : decode cX7_oil 50 = .ok (.getfield 157, 3) := by decide +kernel
theorem dX7_oil_53 : decode cX7_oil 53 = .ok (.iload_n 1, 1) := by decide +kernel
theorem dX7_oil_54 : decode cX7_oil 54 = .ok (.iconst 0, 1) := by decide +kernel
theorem dX7_oil_55 : decode cX7_oil 55 = .ok (.iastore, 1) := by decide +kernel
theorem dX7_oil_56 : decode cX7_oil 56 = .ok (.iload_n 2, 1) := by decide +kernel
theorem dX7_oil_57 : decode cX7_oil 57 = .ok (.ireturn, 1) := by decide +kernel
theorem dX7_well_0 : decode cX7_well 0 = .ok (.aload_n 0, 1) := by decide +kernel
theorem dX7_well_1 : decode cX7_well 1 = .ok (.getfield 69, 3) := by decide +kernel
theorem dX7_well_4 : decode cX7_well 4 = .ok (.iload_n 1, 1) := by decide +kernel
theorem dX7_well_5 : decode cX7_well 5 = .ok (.invokevirtual 168, 3) := by decide +kernel
theorem dX7_well_8 : decode cX7_well 8 = .ok (.ifCond .ne 6, 3) := by decide +kernel
theorem dX7_well_11 : decode cX7_well 11 = .ok (.ldc 153, 2) := by decide +kernel
theorem dX7_well_13 : decode cX7_well 13 = .ok (.ireturn, 1) := by decide +kernel
theorem dX7_well_14 : decode cX7_well 14 = .ok (.aload_n 0, 1) := by decide +kernel
theorem dX7_well_15 : decode cX7_well 15 = .ok (.getfield 19, 3) := by decide +kernel
theorem dX7_well_18 : decode cX7_well 18 = .ok (.getfield 128, 3) := by decide +kernel
theorem dX7_well_21 : decode cX7_well 21 = .ok (.iload_n 1, 1) := by decide +kernel
theorem dX7_well_22 : decode cX7_well 22 = .ok (.ishr, 1) := by decide +kernel
theorem dX7_well_23 : decode cX7_well 23 = .ok (.iconst 1, 1) := by decide +kernel
theorem dX7_well_24 : decode cX7_well 24 = .ok (.iand, 1) := by decide +kernel
theorem dX7_well_25 : decode cX7_well 25 = .ok (.istore_n 2, 1) := by decide +kernel
theorem dX7_well_26 : decode cX7_well 26 = .ok (.aload_n 0, 1) := by decide +kernel
theorem dX7_well_27 : decode cX7_well 27 = .ok (.getfield 26, 3) := by decide +kernel
theorem dX7_well_30 : decode cX7_well 30 = .ok (.aload_n 0, 1) := by decide +kernel
theorem dX7_well_31 : decode cX7_well 31 = .ok (.getfield 19, 3) := by decide +kernel
theorem dX7_well_34 : decode cX7_well 34 = .ok (.invokevirtual 187, 3) := by decide +kernel
theorem dX7_well_37 : decode cX7_well 37 = .ok (.aload_n 0, 1) := by decide +kernel
theorem dX7_well_38 : decode cX7_well 38 = .ok (.getfield 19, 3) := by decide +kernel
theorem dX7_well_41 : decode cX7_well 41 = .ok (.dup, 1) := by decide +kernel
theorem dX7_well_42 : decode cX7_well 42 = .ok (.getfield 128, 3) := by decide +kernel
theorem dX7_well_45 : decode cX7_well 45 = .ok (.iconst 1, 1) := by decide +kernel
theorem dX7_well_46 : decode cX7_well 46 = .ok (.iload_n 1, 1) := by decide +kernel
theorem dX7_well_47 : decode cX7_well 47 = .ok (.ishl, 1) := by decide +kernel
theorem dX7_well_48 : decode cX7_well 48 = .ok (.iconst (-1), 1) := by decide +kernel
theorem dX7_well_49 : decode cX7_well 49 = .ok (.ixor, 1) := by decide +kernel
theorem dX7_well_50 : decode cX7_well 50 = .ok (.iand, 1) := by decide +kernel
theorem dX7_well_51 : decode cX7_well 51 = .ok (.putfield 128, 3) := by decide +kernel
theorem dX7_well_54 : decode cX7_well 54 = .ok (.iload_n 2, 1) := by decide +kernel
theorem dX7_well_55 : decode cX7_well 55 = .ok (.ireturn, 1) := by decide +kernel
theorem dX7_drift_0 : decode cX7_drift 0 = .ok (.aload_n 0, 1) := by decide +kernel
theorem dX7_drift_1 : decode cX7_drift 1 = .ok (.iload_n 1, 1) := by decide +kernel
theorem dX7_drift_2 : decode cX7_drift 2 = .ok (.invokevirtual 184, 3) := by decide +kernel
theorem dX7_drift_5 : decode cX7_drift 5 = .ok (.istore_n 2, 1) := by decide +kernel
theorem dX7_drift_6 : decode cX7_drift 6 = .ok (.iload_n 2, 1) := by decide +kernel
theorem dX7_drift_7 : decode cX7_drift 7 = .ok (.ifCond .eq 5, 3) := by decide +kernel
theorem dX7_drift_10 : decode cX7_drift 10 = .ok (.iload_n 2, 1) := by decide +kernel
theorem dX7_drift_11 : decode cX7_drift 11 = .ok (.ireturn, 1) := by decide +kernel
theorem dX7_drift_12 : decode cX7_drift 12 = .ok (.aload_n 0, 1) := by decide +kernel
theorem dX7_drift_13 : decode cX7_drift 13 = .ok (.getfield 26, 3) := by decide +kernel
theorem dX7_drift_16 : decode cX7_drift 16 = .ok (.aload_n 0, 1) := by decide +kernel
theorem dX7_drift_17 : decode cX7_drift 17 = .ok (.getfield 19, 3) := by decide +kernel
theorem dX7_drift_20 : decode cX7_drift 20 = .ok (.invokevirtual 187, 3) := by decide +kernel
theorem dX7_drift_23 : decode cX7_drift 23 = .ok (.iconst 0, 1) := by decide +kernel
theorem dX7_drift_24 : decode cX7_drift 24 = .ok (.istore_n 3, 1) := by decide +kernel
theorem dX7_drift_25 : decode cX7_drift 25 = .ok (.iload_n 3, 1) := by decide +kernel
theorem dX7_drift_26 : decode cX7_drift 26 = .ok (.iload_n 1, 1) := by decide +kernel
theorem dX7_drift_27 : decode cX7_drift 27 = .ok (.if_icmp .ge 24, 3) := by decide +kernel
theorem dX7_drift_30 : decode cX7_drift 30 = .ok (.aload_n 0, 1) := by decide +kernel
theorem dX7_drift_31 : decode cX7_drift 31 = .ok (.invokevirtual 195, 3) := by decide +kernel
theorem dX7_drift_34 : decode cX7_drift 34 = .ok (.aload_n 0, 1) := by decide +kernel
theorem dX7_drift_35 : decode cX7_drift 35 = .ok (.getfield 19, 3) := by decide +kernel
theorem dX7_drift_38 : decode cX7_drift 38 = .ok (.aload_n 0, 1) := by decide +kernel
theorem dX7_drift_39 : decode cX7_drift 39 = .ok (.getfield 69, 3) := by decide +kernel
theorem dX7_drift_42 : decode cX7_drift 42 = .ok (.invokevirtual 191, 3) := by decide +kernel
theorem dX7_drift_45 : decode cX7_drift 45 = .ok (.iinc 3 1, 3) := by decide +kernel
theorem dX7_drift_48 : decode cX7_drift 48 = .ok (.goto (-23), 3) := by decide +kernel
theorem dX7_drift_51 : decode cX7_drift 51 = .ok (.aload_n 0, 1) := by decide +kernel
theorem dX7_drift_52 : decode cX7_drift 52 = .ok (.getfield 19, 3) := by decide +kernel
theorem dX7_drift_55 : decode cX7_drift 55 = .ok (.getfield 119, 3) := by decide +kernel
theorem dX7_drift_58 : decode cX7_drift 58 = .ok (.ireturn, 1) := by decide +kernel
theorem dX7_undo_0 : decode cX7_undo 0 = .ok (.aload_n 0, 1) := by decide +kernel
theorem dX7_undo_1 : decode cX7_undo 1 = .ok (.getfield 26, 3) := by decide +kernel
theorem dX7_undo_4 : decode cX7_undo 4 = .ok (.getfield 146, 3) := by decide +kernel
theorem dX7_undo_7 : decode cX7_undo 7 = .ok (.ifCond .ne 6, 3) := by decide +kernel
theorem dX7_undo_10 : decode cX7_undo 10 = .ok (.ldc 194, 2) := by decide +kernel
theorem dX7_undo_12 : decode cX7_undo 12 = .ok (.ireturn, 1) := by decide +kernel
theorem dX7_undo_13 : decode cX7_undo 13 = .ok (.aload_n 0, 1) := by decide +kernel
theorem dX7_undo_14 : decode cX7_undo 14 = .ok (.getfield 26, 3) := by decide +kernel
theorem dX7_undo_17 : decode cX7_undo 17 = .ok (.aload_n 0, 1) := by decide +kernel
theorem dX7_undo_18 : decode cX7_undo 18 = .ok (.getfield 19, 3) := by decide +kernel
theorem dX7_undo_21 : decode cX7_undo 21 = .ok (.invokevirtual 198, 3) := by decide +kernel
theorem dX7_undo_24 : decode cX7_undo 24 = .ok (.aload_n 0, 1) := by decide +kernel
theorem dX7_undo_25 : decode cX7_undo 25 = .ok (.getfield 26, 3) := by decide +kernel
theorem dX7_undo_28 : decode cX7_undo 28 = .ok (.getfield 146, 3) := by decide +kernel
theorem dX7_undo_31 : decode cX7_undo 31 = .ok (.ireturn, 1) := by decide +kernel
theorem dX7_refusalOfHours_0 : decode cX7_refusalOfHours 0 = .ok (.iload_n 1, 1) := by decide +kernel
theorem dX7_refusalOfHours_1 : decode cX7_refusalOfHours 1 = .ok (.iconst 1, 1) := by decide +kernel
theorem dX7_refusalOfHours_2 : decode cX7_refusalOfHours 2 = .ok (.if_icmp .lt 9, 3) := by decide +kernel
theorem dX7_refusalOfHours_5 : decode cX7_refusalOfHours 5 = .ok (.iload_n 1, 1) := by decide +kernel
theorem dX7_refusalOfHours_6 : decode cX7_refusalOfHours 6 = .ok (.bipush 60, 2) := by decide +kernel
theorem dX7_refusalOfHours_8 : decode cX7_refusalOfHours 8 = .ok (.if_icmp .le 6, 3) := by decide +kernel
theorem dX7_refusalOfHours_11 : decode cX7_refusalOfHours 11 = .ok (.ldc 90, 2) := by decide +kernel
theorem dX7_refusalOfHours_13 : decode cX7_refusalOfHours 13 = .ok (.ireturn, 1) := by decide +kernel
theorem dX7_refusalOfHours_14 : decode cX7_refusalOfHours 14 = .ok (.aload_n 0, 1) := by decide +kernel
theorem dX7_refusalOfHours_15 : decode cX7_refusalOfHours 15 = .ok (.getfield 69, 3) := by decide +kernel
theorem dX7_refusalOfHours_18 : decode cX7_refusalOfHours 18 = .ok (.getfield 113, 3) := by decide +kernel
theorem dX7_refusalOfHours_21 : decode cX7_refusalOfHours 21 = .ok (.ifCond .ne 6, 3) := by decide +kernel
theorem dX7_refusalOfHours_24 : decode cX7_refusalOfHours 24 = .ok (.ldc 194, 2) := by decide +kernel
theorem dX7_refusalOfHours_26 : decode cX7_refusalOfHours 26 = .ok (.ireturn, 1) := by decide +kernel
theorem dX7_refusalOfHours_27 : decode cX7_refusalOfHours 27 = .ok (.aload_n 0, 1) := by decide +kernel
theorem dX7_refusalOfHours_28 : decode cX7_refusalOfHours 28 = .ok (.getfield 19, 3) := by decide +kernel
theorem dX7_refusalOfHours_31 : decode cX7_refusalOfHours 31 = .ok (.getfield 116, 3) := by decide +kernel
theorem dX7_refusalOfHours_34 : decode cX7_refusalOfHours 34 = .ok (.sipush 9000, 3) := by decide +kernel
theorem dX7_refusalOfHours_37 : decode cX7_refusalOfHours 37 = .ok (.if_icmp .le 8, 3) := by decide +kernel
theorem dX7_refusalOfHours_40 : decode cX7_refusalOfHours 40 = .ok (.ldc 94, 2) := by decide +kernel
theorem dX7_refusalOfHours_42 : decode cX7_refusalOfHours 42 = .ok (.goto 4, 3) := by decide +kernel
theorem dX7_refusalOfHours_45 : decode cX7_refusalOfHours 45 = .ok (.iconst 0, 1) := by decide +kernel
theorem dX7_refusalOfHours_46 : decode cX7_refusalOfHours 46 = .ok (.ireturn, 1) := by decide +kernel
theorem dX7_comeByDraw_0 : decode cX7_comeByDraw 0 = .ok (.aload_n 0, 1) := by decide +kernel
theorem dX7_comeByDraw_1 : decode cX7_comeByDraw 1 = .ok (.getfield 69, 3) := by decide +kernel
theorem dX7_comeByDraw_4 : decode cX7_comeByDraw 4 = .ok (.getfield 110, 3) := by decide +kernel
theorem dX7_comeByDraw_7 : decode cX7_comeByDraw 7 = .ok (.ifCond .eq 13, 3) := by decide +kernel
theorem dX7_comeByDraw_10 : decode cX7_comeByDraw 10 = .ok (.aload_n 0, 1) := by decide +kernel
theorem dX7_comeByDraw_11 : decode cX7_comeByDraw 11 = .ok (.getfield 69, 3) := by decide +kernel
theorem dX7_comeByDraw_14 : decode cX7_comeByDraw 14 = .ok (.getfield 113, 3) := by decide +kernel
theorem dX7_comeByDraw_17 : decode cX7_comeByDraw 17 = .ok (.ifCond .ne 4, 3) := by decide +kernel
theorem dX7_comeByDraw_20 : decode cX7_comeByDraw 20 = .ok (.return_, 1) := by decide +kernel
theorem dX7_comeByDraw_21 : decode cX7_comeByDraw 21 = .ok (.aload_n 0, 1) := by decide +kernel
theorem dX7_comeByDraw_22 : decode cX7_comeByDraw 22 = .ok (.aload_n 0, 1) := by decide +kernel
theorem dX7_comeByDraw_23 : decode cX7_comeByDraw 23 = .ok (.getfield 69, 3) := by decide +kernel
theorem dX7_comeByDraw_26 : decode cX7_comeByDraw 26 = .ok (.getfield 110, 3) := by decide +kernel
theorem dX7_comeByDraw_29 : decode cX7_comeByDraw 29 = .ok (.invokevirtual 201, 3) := by decide +kernel
theorem dX7_comeByDraw_32 : decode cX7_comeByDraw 32 = .ok (.istore_n 1, 1) := by decide +kernel
theorem dX7_comeByDraw_33 : decode cX7_comeByDraw 33 = .ok (.aload_n 0, 1) := by decide +kernel
theorem dX7_comeByDraw_34 : decode cX7_comeByDraw 34 = .ok (.aload_n 0, 1) := by decide +kernel
theorem dX7_comeByDraw_35 : decode cX7_comeByDraw 35 = .ok (.getfield 69, 3) := by decide +kernel
theorem dX7_comeByDraw_38 : decode cX7_comeByDraw 38 = .ok (.getfield 113, 3) := by decide +kernel
theorem dX7_comeByDraw_41 : decode cX7_comeByDraw 41 = .ok (.invokevirtual 201, 3) := by decide +kernel
theorem dX7_comeByDraw_44 : decode cX7_comeByDraw 44 = .ok (.istore_n 2, 1) := by decide +kernel
theorem dX7_comeByDraw_45 : decode cX7_comeByDraw 45 = .ok (.aload_n 0, 1) := by decide +kernel
theorem dX7_comeByDraw_46 : decode cX7_comeByDraw 46 = .ok (.getfield 19, 3) := by decide +kernel
theorem dX7_comeByDraw_49 : decode cX7_comeByDraw 49 = .ok (.aload_n 0, 1) := by decide +kernel
theorem dX7_comeByDraw_50 : decode cX7_comeByDraw 50 = .ok (.getfield 69, 3) := by decide +kernel
theorem dX7_comeByDraw_53 : decode cX7_comeByDraw 53 = .ok (.iload_n 2, 1) := by decide +kernel
theorem dX7_comeByDraw_54 : decode cX7_comeByDraw 54 = .ok (.invokevirtual 160, 3) := by decide +kernel
theorem dX7_comeByDraw_57 : decode cX7_comeByDraw 57 = .ok (.ifCond .ne 13, 3) := by decide +kernel
theorem dX7_comeByDraw_60 : decode cX7_comeByDraw 60 = .ok (.aload_n 0, 1) := by decide +kernel
theorem dX7_comeByDraw_61 : decode cX7_comeByDraw 61 = .ok (.getfield 19, 3) := by decide +kernel
theorem dX7_comeByDraw_64 : decode cX7_comeByDraw 64 = .ok (.getfield 171, 3) := by decide +kernel
theorem dX7_comeByDraw_67 : decode cX7_comeByDraw 67 = .ok (.iload_n 1, 1) := by decide +kernel
theorem dX7_comeByDraw_68 : decode cX7_comeByDraw 68 = .ok (.iload_n 2, 1) := by decide +kernel
theorem dX7_comeByDraw_69 : decode cX7_comeByDraw 69 = .ok (.iastore, 1) := by decide +kernel
theorem dX7_comeByDraw_70 : decode cX7_comeByDraw 70 = .ok (.return_, 1) := by decide +kernel
theorem dX7_draw_0 : decode cX7_draw 0 = .ok (.aload_n 0, 1) := by decide +kernel
theorem dX7_draw_1 : decode cX7_draw 1 = .ok (.aload_n 0, 1) := by decide +kernel
theorem dX7_draw_2 : decode cX7_draw 2 = .ok (.getfield 87, 3) := by decide +kernel
theorem dX7_draw_5 : decode cX7_draw 5 = .ok (.ldc 204, 2) := by decide +kernel
theorem dX7_draw_7 : decode cX7_draw 7 = .ok (.imul, 1) := by decide +kernel
theorem dX7_draw_8 : decode cX7_draw 8 = .ok (.sipush 12345, 3) := by decide +kernel
theorem dX7_draw_11 : decode cX7_draw 11 = .ok (.iadd, 1) := by decide +kernel
theorem dX7_draw_12 : decode cX7_draw 12 = .ok (.ldc 205, 2) := by decide +kernel
theorem dX7_draw_14 : decode cX7_draw 14 = .ok (.iand, 1) := by decide +kernel
theorem dX7_draw_15 : decode cX7_draw 15 = .ok (.putfield 87, 3) := by decide +kernel
theorem dX7_draw_18 : decode cX7_draw 18 = .ok (.iload_n 1, 1) := by decide +kernel
theorem dX7_draw_19 : decode cX7_draw 19 = .ok (.ifCond .le 15, 3) := by decide +kernel
theorem dX7_draw_22 : decode cX7_draw 22 = .ok (.aload_n 0, 1) := by decide +kernel
theorem dX7_draw_23 : decode cX7_draw 23 = .ok (.getfield 87, 3) := by decide +kernel
theorem dX7_draw_26 : decode cX7_draw 26 = .ok (.ldc 206, 2) := by decide +kernel
theorem dX7_draw_28 : decode cX7_draw 28 = .ok (.idiv, 1) := by decide +kernel
theorem dX7_draw_29 : decode cX7_draw 29 = .ok (.iload_n 1, 1) := by decide +kernel
theorem dX7_draw_30 : decode cX7_draw 30 = .ok (.irem, 1) := by decide +kernel
theorem dX7_draw_31 : decode cX7_draw 31 = .ok (.goto 4, 3) := by decide +kernel
theorem dX7_draw_34 : decode cX7_draw 34 = .ok (.iconst 0, 1) := by decide +kernel
theorem dX7_draw_35 : decode cX7_draw 35 = .ok (.ireturn, 1) := by decide +kernel
theorem dX7_atOnce_0 : decode cX7_atOnce 0 = .ok (.iload_n 1, 1) := by decide +kernel
theorem dX7_atOnce_1 : decode cX7_atOnce 1 = .ok (.iconst (-1), 1) := by decide +kernel
theorem dX7_atOnce_2 : decode cX7_atOnce 2 = .ok (.if_icmp .eq 23, 3) := by decide +kernel
theorem dX7_atOnce_5 : decode cX7_atOnce 5 = .ok (.iload_n 1, 1) := by decide +kernel
theorem dX7_atOnce_6 : decode cX7_atOnce 6 = .ok (.bipush (-2), 2) := by decide +kernel
theorem dX7_atOnce_8 : decode cX7_atOnce 8 = .ok (.if_icmp .eq 17, 3) := by decide +kernel
theorem dX7_atOnce_11 : decode cX7_atOnce 11 = .ok (.aload_n 0, 1) := by decide +kernel
theorem dX7_atOnce_12 : decode cX7_atOnce 12 = .ok (.getfield 69, 3) := by decide +kernel
theorem dX7_atOnce_15 : decode cX7_atOnce 15 = .ok (.iload_n 1, 1) := by decide +kernel
theorem dX7_atOnce_16 : decode cX7_atOnce 16 = .ok (.invokevirtual 168, 3) := by decide +kernel
theorem dX7_atOnce_19 : decode cX7_atOnce 19 = .ok (.ifCond .ne 6, 3) := by decide +kernel
theorem dX7_atOnce_22 : decode cX7_atOnce 22 = .ok (.ldc 153, 2) := by decide +kernel
theorem dX7_atOnce_24 : decode cX7_atOnce 24 = .ok (.ireturn, 1) := by decide +kernel
theorem dX7_atOnce_25 : decode cX7_atOnce 25 = .ok (.aload_n 0, 1) := by decide +kernel
theorem dX7_atOnce_26 : decode cX7_atOnce 26 = .ok (.getfield 40, 3) := by decide +kernel
theorem dX7_atOnce_29 : decode cX7_atOnce 29 = .ok (.aload_n 0, 1) := by decide +kernel
theorem dX7_atOnce_30 : decode cX7_atOnce 30 = .ok (.getfield 69, 3) := by decide +kernel
theorem dX7_atOnce_33 : decode cX7_atOnce 33 = .ok (.aload_n 0, 1) := by decide +kernel
theorem dX7_atOnce_34 : decode cX7_atOnce 34 = .ok (.getfield 19, 3) := by decide +kernel
theorem dX7_atOnce_37 : decode cX7_atOnce 37 = .ok (.getfield 125, 3) := by decide +kernel
theorem dX7_atOnce_40 : decode cX7_atOnce 40 = .ok (.aload_n 0, 1) := by decide +kernel
theorem dX7_atOnce_41 : decode cX7_atOnce 41 = .ok (.invokevirtual 207, 3) := by decide +kernel
theorem dX7_atOnce_44 : decode cX7_atOnce 44 = .ok (.invokevirtual 211, 3) := by decide +kernel
theorem dX7_atOnce_47 : decode cX7_atOnce 47 = .ok (.iload_n 1, 1) := by decide +kernel
theorem dX7_atOnce_48 : decode cX7_atOnce 48 = .ok (.iconst (-1), 1) := by decide +kernel
theorem dX7_atOnce_49 : decode cX7_atOnce 49 = .ok (.if_icmp .ne 11, 3) := by decide +kernel
theorem dX7_atOnce_52 : decode cX7_atOnce 52 = .ok (.aload_n 0, 1) := by decide +kernel
theorem dX7_atOnce_53 : decode cX7_atOnce 53 = .ok (.getfield 40, 3) := by decide +kernel
theorem dX7_atOnce_56 : decode cX7_atOnce 56 = .ok (.getfield 215, 3) := by decide +kernel
theorem dX7_atOnce_59 : decode cX7_atOnce 59 = .ok (.ireturn, 1) := by decide +kernel
theorem dX7_atOnce_60 : decode cX7_atOnce 60 = .ok (.iload_n 1, 1) := by decide +kernel
theorem dX7_atOnce_61 : decode cX7_atOnce 61 = .ok (.bipush (-2), 2) := by decide +kernel
theorem dX7_atOnce_63 : decode cX7_atOnce 63 = .ok (.if_icmp .ne 11, 3) := by decide +kernel
theorem dX7_atOnce_66 : decode cX7_atOnce 66 = .ok (.aload_n 0, 1) := by decide +kernel
theorem dX7_atOnce_67 : decode cX7_atOnce 67 = .ok (.getfield 40, 3) := by decide +kernel
theorem dX7_atOnce_70 : decode cX7_atOnce 70 = .ok (.getfield 218, 3) := by decide +kernel
theorem dX7_atOnce_73 : decode cX7_atOnce 73 = .ok (.ireturn, 1) := by decide +kernel
theorem dX7_atOnce_74 : decode cX7_atOnce 74 = .ok (.aload_n 0, 1) := by decide +kernel
theorem dX7_atOnce_75 : decode cX7_atOnce 75 = .ok (.getfield 40, 3) := by decide +kernel
theorem dX7_atOnce_78 : decode cX7_atOnce 78 = .ok (.getfield 220, 3) := by decide +kernel
theorem dX7_atOnce_81 : decode cX7_atOnce 81 = .ok (.iload_n 1, 1) := by decide +kernel
theorem dX7_atOnce_82 : decode cX7_atOnce 82 = .ok (.iaload, 1) := by decide +kernel
theorem dX7_atOnce_83 : decode cX7_atOnce 83 = .ok (.ireturn, 1) := by decide +kernel
theorem dX7_sides_0 : decode cX7_sides 0 = .ok (.aload_n 0, 1) := by decide +kernel
theorem dX7_sides_1 : decode cX7_sides 1 = .ok (.getfield 69, 3) := by decide +kernel
theorem dX7_sides_4 : decode cX7_sides 4 = .ok (.iload_n 1, 1) := by decide +kernel
theorem dX7_sides_5 : decode cX7_sides 5 = .ok (.invokevirtual 223, 3) := by decide +kernel
theorem dX7_sides_8 : decode cX7_sides 8 = .ok (.ifCond .eq 14, 3) := by decide +kernel
theorem dX7_sides_11 : decode cX7_sides 11 = .ok (.aload_n 0, 1) := by decide +kernel
theorem dX7_sides_12 : decode cX7_sides 12 = .ok (.getfield 69, 3) := by decide +kernel
theorem dX7_sides_15 : decode cX7_sides 15 = .ok (.iload_n 2, 1) := by decide +kernel
theorem dX7_sides_16 : decode cX7_sides 16 = .ok (.invokevirtual 223, 3) := by decide +kernel
theorem dX7_sides_19 : decode cX7_sides 19 = .ok (.ifCond .ne 6, 3) := by decide +kernel
theorem dX7_sides_22 : decode cX7_sides 22 = .ok (.ldc 153, 2) := by decide +kernel
theorem dX7_sides_24 : decode cX7_sides 24 = .ok (.ireturn, 1) := by decide +kernel
theorem dX7_sides_25 : decode cX7_sides 25 = .ok (.aload_n 0, 1) := by decide +kernel
theorem dX7_sides_26 : decode cX7_sides 26 = .ok (.getfield 47, 3) := by decide +kernel
theorem dX7_sides_29 : decode cX7_sides 29 = .ok (.aload_n 0, 1) := by decide +kernel
theorem dX7_sides_30 : decode cX7_sides 30 = .ok (.getfield 69, 3) := by decide +kernel
theorem dX7_sides_33 : decode cX7_sides 33 = .ok (.aload_n 0, 1) := by decide +kernel
theorem dX7_sides_34 : decode cX7_sides 34 = .ok (.getfield 19, 3) := by decide +kernel
theorem dX7_sides_37 : decode cX7_sides 37 = .ok (.getfield 125, 3) := by decide +kernel
theorem dX7_sides_40 : decode cX7_sides 40 = .ok (.aload_n 0, 1) := by decide +kernel
theorem dX7_sides_41 : decode cX7_sides 41 = .ok (.invokevirtual 207, 3) := by decide +kernel
theorem dX7_sides_44 : decode cX7_sides 44 = .ok (.iload_n 1, 1) := by decide +kernel
theorem dX7_sides_45 : decode cX7_sides 45 = .ok (.iload_n 2, 1) := by decide +kernel
theorem dX7_sides_46 : decode cX7_sides 46 = .ok (.invokevirtual 226, 3) := by decide +kernel
theorem dX7_sides_49 : decode cX7_sides 49 = .ok (.ireturn, 1) := by decide +kernel
theorem dX7_steady_0 : decode cX7_steady 0 = .ok (.aload_n 0, 1) := by decide +kernel
theorem dX7_steady_1 : decode cX7_steady 1 = .ok (.getfield 40, 3) := by decide +kernel
theorem dX7_steady_4 : decode cX7_steady 4 = .ok (.aload_n 0, 1) := by decide +kernel
theorem dX7_steady_5 : decode cX7_steady 5 = .ok (.getfield 69, 3) := by decide +kernel
theorem dX7_steady_8 : decode cX7_steady 8 = .ok (.aload_n 0, 1) := by decide +kernel
theorem dX7_steady_9 : decode cX7_steady 9 = .ok (.getfield 19, 3) := by decide +kernel
theorem dX7_steady_12 : decode cX7_steady 12 = .ok (.getfield 125, 3) := by decide +kernel
theorem dX7_steady_15 : decode cX7_steady 15 = .ok (.aload_n 0, 1) := by decide +kernel
theorem dX7_steady_16 : decode cX7_steady 16 = .ok (.invokevirtual 207, 3) := by decide +kernel
theorem dX7_steady_19 : decode cX7_steady 19 = .ok (.invokevirtual 211, 3) := by decide +kernel
theorem dX7_steady_22 : decode cX7_steady 22 = .ok (.iconst 0, 1) := by decide +kernel
theorem dX7_steady_23 : decode cX7_steady 23 = .ok (.istore_n 1, 1) := by decide +kernel
theorem dX7_steady_24 : decode cX7_steady 24 = .ok (.iload_n 1, 1) := by decide +kernel
theorem dX7_steady_25 : decode cX7_steady 25 = .ok (.aload_n 0, 1) := by decide +kernel
theorem dX7_steady_26 : decode cX7_steady 26 = .ok (.getfield 69, 3) := by decide +kernel
theorem dX7_steady_29 : decode cX7_steady 29 = .ok (.getfield 110, 3) := by decide +kernel
theorem dX7_steady_32 : decode cX7_steady 32 = .ok (.if_icmp .ge 75, 3) := by decide +kernel
theorem dX7_steady_35 : decode cX7_steady 35 = .ok (.aload_n 0, 1) := by decide +kernel
theorem dX7_steady_36 : decode cX7_steady 36 = .ok (.getfield 69, 3) := by decide +kernel
theorem dX7_steady_39 : decode cX7_steady 39 = .ok (.iload_n 1, 1) := by decide +kernel
theorem dX7_steady_40 : decode cX7_steady 40 = .ok (.aload_n 0, 1) := by decide +kernel
theorem dX7_steady_41 : decode cX7_steady 41 = .ok (.getfield 19, 3) := by decide +kernel
theorem dX7_steady_44 : decode cX7_steady 44 = .ok (.getfield 125, 3) := by decide +kernel
theorem dX7_steady_47 : decode cX7_steady 47 = .ok (.invokevirtual 174, 3) := by decide +kernel
theorem dX7_steady_50 : decode cX7_steady 50 = .ok (.istore_n 2, 1) := by decide +kernel
theorem dX7_steady_51 : decode cX7_steady 51 = .ok (.iload_n 1, 1) := by decide +kernel
theorem dX7_steady_52 : decode cX7_steady 52 = .ok (.iconst 1, 1) := by decide +kernel
theorem dX7_steady_53 : decode cX7_steady 53 = .ok (.iadd, 1) := by decide +kernel
theorem dX7_steady_54 : decode cX7_steady 54 = .ok (.istore_n 3, 1) := by decide +kernel
theorem dX7_steady_55 : decode cX7_steady 55 = .ok (.iload_n 3, 1) := by decide +kernel
theorem dX7_steady_56 : decode cX7_steady 56 = .ok (.aload_n 0, 1) := by decide +kernel
theorem dX7_steady_57 : decode cX7_steady 57 = .ok (.getfield 69, 3) := by decide +kernel
theorem dX7_steady_60 : decode cX7_steady 60 = .ok (.getfield 110, 3) := by decide +kernel
theorem dX7_steady_63 : decode cX7_steady 63 = .ok (.if_icmp .ge 38, 3) := by decide +kernel
theorem dX7_steady_66 : decode cX7_steady 66 = .ok (.iload_n 2, 1) := by decide +kernel
theorem dX7_steady_67 : decode cX7_steady 67 = .ok (.iload_n 3, 1) := by decide +kernel
theorem dX7_steady_68 : decode cX7_steady 68 = .ok (.ishr, 1) := by decide +kernel
theorem dX7_steady_69 : decode cX7_steady 69 = .ok (.iconst 1, 1) := by decide +kernel
theorem dX7_steady_70 : decode cX7_steady 70 = .ok (.iand, 1) := by decide +kernel
theorem dX7_steady_71 : decode cX7_steady 71 = .ok (.iconst 1, 1) := by decide +kernel
theorem dX7_steady_72 : decode cX7_steady 72 = .ok (.if_icmp .ne 23, 3) := by decide +kernel
theorem dX7_steady_75 : decode cX7_steady 75 = .ok (.aload_n 0, 1) := by decide +kernel
theorem dX7_steady_76 : decode cX7_steady 76 = .ok (.iload_n 1, 1) := by decide +kernel
theorem dX7_steady_77 : decode cX7_steady 77 = .ok (.iload_n 3, 1) := by decide +kernel
theorem dX7_steady_78 : decode cX7_steady 78 = .ok (.invokevirtual 230, 3) := by decide +kernel
theorem dX7_steady_81 : decode cX7_steady 81 = .ok (.ifCond .eq 14, 3) := by decide +kernel
theorem dX7_steady_84 : decode cX7_steady 84 = .ok (.aload_n 0, 1) := by decide +kernel
theorem dX7_steady_85 : decode cX7_steady 85 = .ok (.iload_n 3, 1) := by decide +kernel
theorem dX7_steady_86 : decode cX7_steady 86 = .ok (.iload_n 1, 1) := by decide +kernel
theorem dX7_steady_87 : decode cX7_steady 87 = .ok (.invokevirtual 230, 3) := by decide +kernel
theorem dX7_steady_90 : decode cX7_steady 90 = .ok (.ifCond .eq 5, 3) := by decide +kernel
theorem dX7_steady_93 : decode cX7_steady 93 = .ok (.iconst 0, 1) := by decide +kernel
theorem dX7_steady_94 : decode cX7_steady 94 = .ok (.ireturn, 1) := by decide +kernel
theorem dX7_steady_95 : decode cX7_steady 95 = .ok (.iinc 3 1, 3) := by decide +kernel
theorem dX7_steady_98 : decode cX7_steady 98 = .ok (.goto (-43), 3) := by decide +kernel
theorem dX7_steady_101 : decode cX7_steady 101 = .ok (.iinc 1 1, 3) := by decide +kernel
theorem dX7_steady_104 : decode cX7_steady 104 = .ok (.goto (-80), 3) := by decide +kernel
theorem dX7_steady_107 : decode cX7_steady 107 = .ok (.iconst 1, 1) := by decide +kernel
theorem dX7_steady_108 : decode cX7_steady 108 = .ok (.ireturn, 1) := by decide +kernel
theorem dX7_loves_0 : decode cX7_loves 0 = .ok (.iconst 0, 1) := by decide +kernel
theorem dX7_loves_1 : decode cX7_loves 1 = .ok (.istore_n 2, 1) := by decide +kernel
theorem dX7_loves_2 : decode cX7_loves 2 = .ok (.iconst 0, 1) := by decide +kernel
theorem dX7_loves_3 : decode cX7_loves 3 = .ok (.istore_n 3, 1) := by decide +kernel
theorem dX7_loves_4 : decode cX7_loves 4 = .ok (.iload_n 3, 1) := by decide +kernel
theorem dX7_loves_5 : decode cX7_loves 5 = .ok (.aload_n 0, 1) := by decide +kernel
theorem dX7_loves_6 : decode cX7_loves 6 = .ok (.getfield 69, 3) := by decide +kernel
theorem dX7_loves_9 : decode cX7_loves 9 = .ok (.getfield 110, 3) := by decide +kernel
theorem dX7_loves_12 : decode cX7_loves 12 = .ok (.if_icmp .ge 74, 3) := by decide +kernel
theorem dX7_loves_15 : decode cX7_loves 15 = .ok (.iload_n 3, 1) := by decide +kernel
theorem dX7_loves_16 : decode cX7_loves 16 = .ok (.iconst 1, 1) := by decide +kernel
theorem dX7_loves_17 : decode cX7_loves 17 = .ok (.iadd, 1) := by decide +kernel
theorem dX7_loves_18 : decode cX7_loves 18 = .ok (.istore 4, 2) := by decide +kernel
theorem dX7_loves_20 : decode cX7_loves 20 = .ok (.iload 4, 2) := by decide +kernel
theorem dX7_loves_22 : decode cX7_loves 22 = .ok (.aload_n 0, 1) := by decide +kernel
theorem dX7_loves_23 : decode cX7_loves 23 = .ok (.getfield 69, 3) := by decide +kernel
theorem dX7_loves_26 : decode cX7_loves 26 = .ok (.getfield 110, 3) := by decide +kernel
theorem dX7_loves_29 : decode cX7_loves 29 = .ok (.if_icmp .ge 51, 3) := by decide +kernel
theorem dX7_loves_32 : decode cX7_loves 32 = .ok (.aload_n 0, 1) := by decide +kernel
theorem dX7_loves_33 : decode cX7_loves 33 = .ok (.getfield 69, 3) := by decide +kernel
theorem dX7_loves_36 : decode cX7_loves 36 = .ok (.iload_n 3, 1) := by decide +kernel
theorem dX7_loves_37 : decode cX7_loves 37 = .ok (.iload 4, 2) := by decide +kernel
theorem dX7_loves_39 : decode cX7_loves 39 = .ok (.invokevirtual 234, 3) := by decide +kernel
end
section
theorem dX7_loves_42 : decode cX7_loves 42 = .ok (.ifCond .eq 32, 3) := by decide +kernel
theorem dX7_loves_45 : decode cX7_loves 45 = .ok (.aload_n 0, 1) := by decide +kernel
theorem dX7_loves_46 : decode cX7_loves 46 = .ok (.getfield 69, 3) := by decide +kernel
theorem dX7_loves_49 : decode cX7_loves 49 = .ok (.iload 4, 2) := by decide +kernel
theorem dX7_loves_51 : decode cX7_loves 51 = .ok (.iload_n 3, 1) := by decide +kernel
theorem dX7_loves_52 : decode cX7_loves 52 = .ok (.invokevirtual 234, 3) := by decide +kernel
theorem dX7_loves_55 : decode cX7_loves 55 = .ok (.ifCond .eq 19, 3) := by decide +kernel
theorem dX7_loves_58 : decode cX7_loves 58 = .ok (.iload_n 2, 1) := by decide +kernel
theorem dX7_loves_59 : decode cX7_loves 59 = .ok (.iload_n 1, 1) := by decide +kernel
theorem dX7_loves_60 : decode cX7_loves 60 = .ok (.if_icmp .ne 11, 3) := by decide +kernel
theorem dX7_loves_63 : decode cX7_loves 63 = .ok (.bipush 10, 2) := by decide +kernel
theorem dX7_loves_65 : decode cX7_loves 65 = .ok (.iload_n 3, 1) := by decide +kernel
theorem dX7_loves_66 : decode cX7_loves 66 = .ok (.imul, 1) := by decide +kernel
theorem dX7_loves_67 : decode cX7_loves 67 = .ok (.iload 4, 2) := by decide +kernel
theorem dX7_loves_69 : decode cX7_loves 69 = .ok (.iadd, 1) := by decide +kernel
theorem dX7_loves_70 : decode cX7_loves 70 = .ok (.ireturn, 1) := by decide +kernel
theorem dX7_loves_71 : decode cX7_loves 71 = .ok (.iinc 2 1, 3) := by decide +kernel
theorem dX7_loves_74 : decode cX7_loves 74 = .ok (.iinc 4 1, 3) := by decide +kernel
theorem dX7_loves_77 : decode cX7_loves 77 = .ok (.goto (-57), 3) := by decide +kernel
theorem dX7_loves_80 : decode cX7_loves 80 = .ok (.iinc 3 1, 3) := by decide +kernel
theorem dX7_loves_83 : decode cX7_loves 83 = .ok (.goto (-79), 3) := by decide +kernel
theorem dX7_loves_86 : decode cX7_loves 86 = .ok (.iload_n 1, 1) := by decide +kernel
theorem dX7_loves_87 : decode cX7_loves 87 = .ok (.iconst (-1), 1) := by decide +kernel
theorem dX7_loves_88 : decode cX7_loves 88 = .ok (.if_icmp .ne 7, 3) := by decide +kernel
theorem dX7_loves_91 : decode cX7_loves 91 = .ok (.iload_n 2, 1) := by decide +kernel
theorem dX7_loves_92 : decode cX7_loves 92 = .ok (.goto 4, 3) := by decide +kernel
theorem dX7_loves_95 : decode cX7_loves 95 = .ok (.iconst (-1), 1) := by decide +kernel
theorem dX7_loves_96 : decode cX7_loves 96 = .ok (.ireturn, 1) := by decide +kernel
theorem dX7_first_0 : decode cX7_first 0 = .ok (.iconst 0, 1) := by decide +kernel
theorem dX7_first_1 : decode cX7_first 1 = .ok (.istore_n 1, 1) := by decide +kernel
theorem dX7_first_2 : decode cX7_first 2 = .ok (.iconst 0, 1) := by decide +kernel
theorem dX7_first_3 : decode cX7_first 3 = .ok (.istore_n 2, 1) := by decide +kernel
theorem dX7_first_4 : decode cX7_first 4 = .ok (.iload_n 2, 1) := by decide +kernel
theorem dX7_first_5 : decode cX7_first 5 = .ok (.aload_n 0, 1) := by decide +kernel
theorem dX7_first_6 : decode cX7_first 6 = .ok (.getfield 69, 3) := by decide +kernel
theorem dX7_first_9 : decode cX7_first 9 = .ok (.getfield 110, 3) := by decide +kernel
theorem dX7_first_12 : decode cX7_first 12 = .ok (.if_icmp .ge 33, 3) := by decide +kernel
theorem dX7_first_15 : decode cX7_first 15 = .ok (.aload_n 0, 1) := by decide +kernel
theorem dX7_first_16 : decode cX7_first 16 = .ok (.getfield 19, 3) := by decide +kernel
theorem dX7_first_19 : decode cX7_first 19 = .ok (.iload_n 2, 1) := by decide +kernel
theorem dX7_first_20 : decode cX7_first 20 = .ok (.invokevirtual 237, 3) := by decide +kernel
theorem dX7_first_23 : decode cX7_first 23 = .ok (.aload_n 0, 1) := by decide +kernel
theorem dX7_first_24 : decode cX7_first 24 = .ok (.getfield 19, 3) := by decide +kernel
theorem dX7_first_27 : decode cX7_first 27 = .ok (.getfield 128, 3) := by decide +kernel
theorem dX7_first_30 : decode cX7_first 30 = .ok (.if_icmp .ne 9, 3) := by decide +kernel
theorem dX7_first_33 : decode cX7_first 33 = .ok (.iload_n 1, 1) := by decide +kernel
theorem dX7_first_34 : decode cX7_first 34 = .ok (.iconst 1, 1) := by decide +kernel
theorem dX7_first_35 : decode cX7_first 35 = .ok (.iload_n 2, 1) := by decide +kernel
theorem dX7_first_36 : decode cX7_first 36 = .ok (.ishl, 1) := by decide +kernel
theorem dX7_first_37 : decode cX7_first 37 = .ok (.ior, 1) := by decide +kernel
theorem dX7_first_38 : decode cX7_first 38 = .ok (.istore_n 1, 1) := by decide +kernel
theorem dX7_first_39 : decode cX7_first 39 = .ok (.iinc 2 1, 3) := by decide +kernel
theorem dX7_first_42 : decode cX7_first 42 = .ok (.goto (-38), 3) := by decide +kernel
theorem dX7_first_45 : decode cX7_first 45 = .ok (.iload_n 1, 1) := by decide +kernel
theorem dX7_first_46 : decode cX7_first 46 = .ok (.ireturn, 1) := by decide +kernel
theorem dX7_dies_0 : decode cX7_dies 0 = .ok (.iload_n 1, 1) := by decide +kernel
theorem dX7_dies_1 : decode cX7_dies 1 = .ok (.ifCond .eq 11, 3) := by decide +kernel
theorem dX7_dies_4 : decode cX7_dies 4 = .ok (.iload_n 1, 1) := by decide +kernel
theorem dX7_dies_5 : decode cX7_dies 5 = .ok (.iconst 1, 1) := by decide +kernel
theorem dX7_dies_6 : decode cX7_dies 6 = .ok (.if_icmp .eq 6, 3) := by decide +kernel
theorem dX7_dies_9 : decode cX7_dies 9 = .ok (.ldc 90, 2) := by decide +kernel
theorem dX7_dies_11 : decode cX7_dies 11 = .ok (.ireturn, 1) := by decide +kernel
theorem dX7_dies_12 : decode cX7_dies 12 = .ok (.iconst (-1), 1) := by decide +kernel
theorem dX7_dies_13 : decode cX7_dies 13 = .ok (.istore_n 2, 1) := by decide +kernel
theorem dX7_dies_14 : decode cX7_dies 14 = .ok (.iconst (-1), 1) := by decide +kernel
theorem dX7_dies_15 : decode cX7_dies 15 = .ok (.istore_n 3, 1) := by decide +kernel
theorem dX7_dies_16 : decode cX7_dies 16 = .ok (.iconst 0, 1) := by decide +kernel
theorem dX7_dies_17 : decode cX7_dies 17 = .ok (.istore 4, 2) := by decide +kernel
theorem dX7_dies_19 : decode cX7_dies 19 = .ok (.iload 4, 2) := by decide +kernel
theorem dX7_dies_21 : decode cX7_dies 21 = .ok (.aload_n 0, 1) := by decide +kernel
theorem dX7_dies_22 : decode cX7_dies 22 = .ok (.getfield 69, 3) := by decide +kernel
theorem dX7_dies_25 : decode cX7_dies 25 = .ok (.getfield 113, 3) := by decide +kernel
theorem dX7_dies_28 : decode cX7_dies 28 = .ok (.if_icmp .ge 54, 3) := by decide +kernel
theorem dX7_dies_31 : decode cX7_dies 31 = .ok (.aload_n 0, 1) := by decide +kernel
theorem dX7_dies_32 : decode cX7_dies 32 = .ok (.getfield 69, 3) := by decide +kernel
theorem dX7_dies_35 : decode cX7_dies 35 = .ok (.getfield 154, 3) := by decide +kernel
theorem dX7_dies_38 : decode cX7_dies 38 = .ok (.iload 4, 2) := by decide +kernel
theorem dX7_dies_40 : decode cX7_dies 40 = .ok (.iaload, 1) := by decide +kernel
theorem dX7_dies_41 : decode cX7_dies 41 = .ok (.aload_n 0, 1) := by decide +kernel
theorem dX7_dies_42 : decode cX7_dies 42 = .ok (.getfield 19, 3) := by decide +kernel
theorem dX7_dies_45 : decode cX7_dies 45 = .ok (.getfield 157, 3) := by decide +kernel
theorem dX7_dies_48 : decode cX7_dies 48 = .ok (.iload 4, 2) := by decide +kernel
theorem dX7_dies_50 : decode cX7_dies 50 = .ok (.iaload, 1) := by decide +kernel
theorem dX7_dies_51 : decode cX7_dies 51 = .ok (.isub, 1) := by decide +kernel
theorem dX7_dies_52 : decode cX7_dies 52 = .ok (.istore 5, 2) := by decide +kernel
theorem dX7_dies_54 : decode cX7_dies 54 = .ok (.iload 5, 2) := by decide +kernel
theorem dX7_dies_56 : decode cX7_dies 56 = .ok (.ifCond .le 20, 3) := by decide +kernel
theorem dX7_dies_59 : decode cX7_dies 59 = .ok (.iload_n 2, 1) := by decide +kernel
theorem dX7_dies_60 : decode cX7_dies 60 = .ok (.iconst (-1), 1) := by decide +kernel
theorem dX7_dies_61 : decode cX7_dies 61 = .ok (.if_icmp .eq 9, 3) := by decide +kernel
theorem dX7_dies_64 : decode cX7_dies 64 = .ok (.iload 5, 2) := by decide +kernel
theorem dX7_dies_66 : decode cX7_dies 66 = .ok (.iload_n 3, 1) := by decide +kernel
theorem dX7_dies_67 : decode cX7_dies 67 = .ok (.if_icmp .ge 9, 3) := by decide +kernel
theorem dX7_dies_70 : decode cX7_dies 70 = .ok (.iload 4, 2) := by decide +kernel
theorem dX7_dies_72 : decode cX7_dies 72 = .ok (.istore_n 2, 1) := by decide +kernel
theorem dX7_dies_73 : decode cX7_dies 73 = .ok (.iload 5, 2) := by decide +kernel
theorem dX7_dies_75 : decode cX7_dies 75 = .ok (.istore_n 3, 1) := by decide +kernel
theorem dX7_dies_76 : decode cX7_dies 76 = .ok (.iinc 4 1, 3) := by decide +kernel
theorem dX7_dies_79 : decode cX7_dies 79 = .ok (.goto (-60), 3) := by decide +kernel
theorem dX7_dies_82 : decode cX7_dies 82 = .ok (.iload_n 1, 1) := by decide +kernel
theorem dX7_dies_83 : decode cX7_dies 83 = .ok (.ifCond .ne 7, 3) := by decide +kernel
theorem dX7_dies_86 : decode cX7_dies 86 = .ok (.iload_n 2, 1) := by decide +kernel
theorem dX7_dies_87 : decode cX7_dies 87 = .ok (.goto 4, 3) := by decide +kernel
theorem dX7_dies_90 : decode cX7_dies 90 = .ok (.iload_n 3, 1) := by decide +kernel
theorem dX7_dies_91 : decode cX7_dies 91 = .ok (.ireturn, 1) := by decide +kernel
theorem dX7_oilFor_0 : decode cX7_oilFor 0 = .ok (.iload_n 1, 1) := by decide +kernel
theorem dX7_oilFor_1 : decode cX7_oilFor 1 = .ok (.ifCond .lt 10, 3) := by decide +kernel
theorem dX7_oilFor_4 : decode cX7_oilFor 4 = .ok (.iload_n 1, 1) := by decide +kernel
theorem dX7_oilFor_5 : decode cX7_oilFor 5 = .ok (.sipush 200, 3) := by decide +kernel
theorem dX7_oilFor_8 : decode cX7_oilFor 8 = .ok (.if_icmp .le 6, 3) := by decide +kernel
theorem dX7_oilFor_11 : decode cX7_oilFor 11 = .ok (.ldc 90, 2) := by decide +kernel
theorem dX7_oilFor_13 : decode cX7_oilFor 13 = .ok (.ireturn, 1) := by decide +kernel
theorem dX7_oilFor_14 : decode cX7_oilFor 14 = .ok (.iconst 0, 1) := by decide +kernel
theorem dX7_oilFor_15 : decode cX7_oilFor 15 = .ok (.istore_n 2, 1) := by decide +kernel
theorem dX7_oilFor_16 : decode cX7_oilFor 16 = .ok (.iconst 0, 1) := by decide +kernel
theorem dX7_oilFor_17 : decode cX7_oilFor 17 = .ok (.istore_n 3, 1) := by decide +kernel
theorem dX7_oilFor_18 : decode cX7_oilFor 18 = .ok (.iload_n 3, 1) := by decide +kernel
theorem dX7_oilFor_19 : decode cX7_oilFor 19 = .ok (.aload_n 0, 1) := by decide +kernel
theorem dX7_oilFor_20 : decode cX7_oilFor 20 = .ok (.getfield 69, 3) := by decide +kernel
theorem dX7_oilFor_23 : decode cX7_oilFor 23 = .ok (.getfield 113, 3) := by decide +kernel
theorem dX7_oilFor_26 : decode cX7_oilFor 26 = .ok (.if_icmp .ge 18, 3) := by decide +kernel
theorem dX7_oilFor_29 : decode cX7_oilFor 29 = .ok (.iload_n 2, 1) := by decide +kernel
theorem dX7_oilFor_30 : decode cX7_oilFor 30 = .ok (.aload_n 0, 1) := by decide +kernel
theorem dX7_oilFor_31 : decode cX7_oilFor 31 = .ok (.iload_n 3, 1) := by decide +kernel
theorem dX7_oilFor_32 : decode cX7_oilFor 32 = .ok (.iload_n 1, 1) := by decide +kernel
theorem dX7_oilFor_33 : decode cX7_oilFor 33 = .ok (.invokevirtual 240, 3) := by decide +kernel
theorem dX7_oilFor_36 : decode cX7_oilFor 36 = .ok (.iadd, 1) := by decide +kernel
theorem dX7_oilFor_37 : decode cX7_oilFor 37 = .ok (.istore_n 2, 1) := by decide +kernel
theorem dX7_oilFor_38 : decode cX7_oilFor 38 = .ok (.iinc 3 1, 3) := by decide +kernel
theorem dX7_oilFor_41 : decode cX7_oilFor 41 = .ok (.goto (-23), 3) := by decide +kernel
theorem dX7_oilFor_44 : decode cX7_oilFor 44 = .ok (.iload_n 2, 1) := by decide +kernel
theorem dX7_oilFor_45 : decode cX7_oilFor 45 = .ok (.ireturn, 1) := by decide +kernel
theorem dX7_evening_0 : decode cX7_evening 0 = .ok (.aload_n 0, 1) := by decide +kernel
theorem dX7_evening_1 : decode cX7_evening 1 = .ok (.getfield 69, 3) := by decide +kernel
theorem dX7_evening_4 : decode cX7_evening 4 = .ok (.iload_n 1, 1) := by decide +kernel
theorem dX7_evening_5 : decode cX7_evening 5 = .ok (.invokevirtual 168, 3) := by decide +kernel
theorem dX7_evening_8 : decode cX7_evening 8 = .ok (.ifCond .ne 6, 3) := by decide +kernel
theorem dX7_evening_11 : decode cX7_evening 11 = .ok (.ldc 153, 2) := by decide +kernel
theorem dX7_evening_13 : decode cX7_evening 13 = .ok (.ireturn, 1) := by decide +kernel
theorem dX7_evening_14 : decode cX7_evening 14 = .ok (.aload_n 0, 1) := by decide +kernel
theorem dX7_evening_15 : decode cX7_evening 15 = .ok (.getfield 19, 3) := by decide +kernel
theorem dX7_evening_18 : decode cX7_evening 18 = .ok (.getfield 171, 3) := by decide +kernel
theorem dX7_evening_21 : decode cX7_evening 21 = .ok (.iload_n 1, 1) := by decide +kernel
theorem dX7_evening_22 : decode cX7_evening 22 = .ok (.iaload, 1) := by decide +kernel
theorem dX7_evening_23 : decode cX7_evening 23 = .ok (.istore_n 2, 1) := by decide +kernel
theorem dX7_evening_24 : decode cX7_evening 24 = .ok (.iload_n 2, 1) := by decide +kernel
theorem dX7_evening_25 : decode cX7_evening 25 = .ok (.iconst (-1), 1) := by decide +kernel
theorem dX7_evening_26 : decode cX7_evening 26 = .ok (.if_icmp .ne 6, 3) := by decide +kernel
theorem dX7_evening_29 : decode cX7_evening 29 = .ok (.ldc 194, 2) := by decide +kernel
theorem dX7_evening_31 : decode cX7_evening 31 = .ok (.ireturn, 1) := by decide +kernel
theorem dX7_evening_32 : decode cX7_evening 32 = .ok (.aload_n 0, 1) := by decide +kernel
theorem dX7_evening_33 : decode cX7_evening 33 = .ok (.getfield 69, 3) := by decide +kernel
theorem dX7_evening_36 : decode cX7_evening 36 = .ok (.iload_n 1, 1) := by decide +kernel
theorem dX7_evening_37 : decode cX7_evening 37 = .ok (.aload_n 0, 1) := by decide +kernel
theorem dX7_evening_38 : decode cX7_evening 38 = .ok (.getfield 19, 3) := by decide +kernel
theorem dX7_evening_41 : decode cX7_evening 41 = .ok (.getfield 125, 3) := by decide +kernel
theorem dX7_evening_44 : decode cX7_evening 44 = .ok (.invokevirtual 174, 3) := by decide +kernel
theorem dX7_evening_47 : decode cX7_evening 47 = .ok (.aload_n 0, 1) := by decide +kernel
theorem dX7_evening_48 : decode cX7_evening 48 = .ok (.getfield 19, 3) := by decide +kernel
theorem dX7_evening_51 : decode cX7_evening 51 = .ok (.aload_n 0, 1) := by decide +kernel
theorem dX7_evening_52 : decode cX7_evening 52 = .ok (.getfield 69, 3) := by decide +kernel
theorem dX7_evening_55 : decode cX7_evening 55 = .ok (.iload_n 2, 1) := by decide +kernel
theorem dX7_evening_56 : decode cX7_evening 56 = .ok (.invokevirtual 164, 3) := by decide +kernel
theorem dX7_evening_59 : decode cX7_evening 59 = .ok (.iand, 1) := by decide +kernel
theorem dX7_evening_60 : decode cX7_evening 60 = .ok (.istore_n 3, 1) := by decide +kernel
theorem dX7_evening_61 : decode cX7_evening 61 = .ok (.iconst 0, 1) := by decide +kernel
theorem dX7_evening_62 : decode cX7_evening 62 = .ok (.bipush 10, 2) := by decide +kernel
theorem dX7_evening_64 : decode cX7_evening 64 = .ok (.iload_n 3, 1) := by decide +kernel
theorem dX7_evening_65 : decode cX7_evening 65 = .ok (.invokestatic 243, 3) := by decide +kernel
theorem dX7_evening_68 : decode cX7_evening 68 = .ok (.isub, 1) := by decide +kernel
theorem dX7_evening_69 : decode cX7_evening 69 = .ok (.invokestatic 248, 3) := by decide +kernel
theorem dX7_evening_72 : decode cX7_evening 72 = .ok (.ireturn, 1) := by decide +kernel
theorem dX7_dry_0 : decode cX7_dry 0 = .ok (.iload_n 1, 1) := by decide +kernel
theorem dX7_dry_1 : decode cX7_dry 1 = .ok (.ifCond .lt 19, 3) := by decide +kernel
theorem dX7_dry_4 : decode cX7_dry 4 = .ok (.iload_n 1, 1) := by decide +kernel
theorem dX7_dry_5 : decode cX7_dry 5 = .ok (.bipush 60, 2) := by decide +kernel
theorem dX7_dry_7 : decode cX7_dry 7 = .ok (.if_icmp .gt 13, 3) := by decide +kernel
theorem dX7_dry_10 : decode cX7_dry 10 = .ok (.iload_n 2, 1) := by decide +kernel
theorem dX7_dry_11 : decode cX7_dry 11 = .ok (.ifCond .lt 9, 3) := by decide +kernel
theorem dX7_dry_14 : decode cX7_dry 14 = .ok (.iload_n 2, 1) := by decide +kernel
theorem dX7_dry_15 : decode cX7_dry 15 = .ok (.bipush 100, 2) := by decide +kernel
theorem dX7_dry_17 : decode cX7_dry 17 = .ok (.if_icmp .le 6, 3) := by decide +kernel
theorem dX7_dry_20 : decode cX7_dry 20 = .ok (.ldc 90, 2) := by decide +kernel
theorem dX7_dry_22 : decode cX7_dry 22 = .ok (.ireturn, 1) := by decide +kernel
theorem dX7_dry_23 : decode cX7_dry 23 = .ok (.ldc2_w 253, 3) := by decide +kernel
theorem dX7_dry_26 : decode cX7_dry 26 = .ok (.lstore_n 3, 1) := by decide +kernel
theorem dX7_dry_27 : decode cX7_dry 27 = .ok (.iconst 0, 1) := by decide +kernel
theorem dX7_dry_28 : decode cX7_dry 28 = .ok (.istore 5, 2) := by decide +kernel
theorem dX7_dry_30 : decode cX7_dry 30 = .ok (.iload 5, 2) := by decide +kernel
theorem dX7_dry_32 : decode cX7_dry 32 = .ok (.iload_n 1, 1) := by decide +kernel
theorem dX7_dry_33 : decode cX7_dry 33 = .ok (.if_icmp .ge 21, 3) := by decide +kernel
theorem dX7_dry_36 : decode cX7_dry 36 = .ok (.lload_n 3, 1) := by decide +kernel
theorem dX7_dry_37 : decode cX7_dry 37 = .ok (.bipush 100, 2) := by decide +kernel
theorem dX7_dry_39 : decode cX7_dry 39 = .ok (.iload_n 2, 1) := by decide +kernel
theorem dX7_dry_40 : decode cX7_dry 40 = .ok (.isub, 1) := by decide +kernel
theorem dX7_dry_41 : decode cX7_dry 41 = .ok (.i2l, 1) := by decide +kernel
theorem dX7_dry_42 : decode cX7_dry 42 = .ok (.lmul, 1) := by decide +kernel
theorem dX7_dry_43 : decode cX7_dry 43 = .ok (.ldc2_w 255, 3) := by decide +kernel
theorem dX7_dry_46 : decode cX7_dry 46 = .ok (.ldiv, 1) := by decide +kernel
theorem dX7_dry_47 : decode cX7_dry 47 = .ok (.lstore_n 3, 1) := by decide +kernel
theorem dX7_dry_48 : decode cX7_dry 48 = .ok (.iinc 5 1, 3) := by decide +kernel
theorem dX7_dry_51 : decode cX7_dry 51 = .ok (.goto (-21), 3) := by decide +kernel
theorem dX7_dry_54 : decode cX7_dry 54 = .ok (.lload_n 3, 1) := by decide +kernel
theorem dX7_dry_55 : decode cX7_dry 55 = .ok (.l2i, 1) := by decide +kernel
theorem dX7_dry_56 : decode cX7_dry 56 = .ok (.ireturn, 1) := by decide +kernel
theorem dX7_openGates_0 : decode cX7_openGates 0 = .ok (.aload_n 0, 1) := by decide +kernel
theorem dX7_openGates_1 : decode cX7_openGates 1 = .ok (.getfield 69, 3) := by decide +kernel
theorem dX7_openGates_4 : decode cX7_openGates 4 = .ok (.getfield 113, 3) := by decide +kernel
theorem dX7_openGates_7 : decode cX7_openGates 7 = .ok (.aload_n 0, 1) := by decide +kernel
theorem dX7_openGates_8 : decode cX7_openGates 8 = .ok (.getfield 19, 3) := by decide +kernel
theorem dX7_openGates_11 : decode cX7_openGates 11 = .ok (.aload_n 0, 1) := by decide +kernel
theorem dX7_openGates_12 : decode cX7_openGates 12 = .ok (.getfield 69, 3) := by decide +kernel
theorem dX7_openGates_15 : decode cX7_openGates 15 = .ok (.invokevirtual 134, 3) := by decide +kernel
theorem dX7_openGates_18 : decode cX7_openGates 18 = .ok (.invokestatic 243, 3) := by decide +kernel
theorem dX7_openGates_21 : decode cX7_openGates 21 = .ok (.isub, 1) := by decide +kernel
theorem dX7_openGates_22 : decode cX7_openGates 22 = .ok (.ireturn, 1) := by decide +kernel
theorem dX7_wouldRather_0 : decode cX7_wouldRather 0 = .ok (.aload_n 0, 1) := by decide +kernel
theorem dX7_wouldRather_1 : decode cX7_wouldRather 1 = .ok (.getfield 40, 3) := by decide +kernel
theorem dX7_wouldRather_4 : decode cX7_wouldRather 4 = .ok (.getfield 220, 3) := by decide +kernel
theorem dX7_wouldRather_7 : decode cX7_wouldRather 7 = .ok (.iload_n 1, 1) := by decide +kernel
theorem dX7_wouldRather_8 : decode cX7_wouldRather 8 = .ok (.iaload, 1) := by decide +kernel
theorem dX7_wouldRather_9 : decode cX7_wouldRather 9 = .ok (.istore_n 3, 1) := by decide +kernel
theorem dX7_wouldRather_10 : decode cX7_wouldRather 10 = .ok (.iload_n 3, 1) := by decide +kernel
theorem dX7_wouldRather_11 : decode cX7_wouldRather 11 = .ok (.iconst (-1), 1) := by decide +kernel
theorem dX7_wouldRather_12 : decode cX7_wouldRather 12 = .ok (.if_icmp .ne 7, 3) := by decide +kernel
theorem dX7_wouldRather_15 : decode cX7_wouldRather 15 = .ok (.iconst 0, 1) := by decide +kernel
theorem dX7_wouldRather_16 : decode cX7_wouldRather 16 = .ok (.goto 12, 3) := by decide +kernel
theorem dX7_wouldRather_19 : decode cX7_wouldRather 19 = .ok (.aload_n 0, 1) := by decide +kernel
theorem dX7_wouldRather_20 : decode cX7_wouldRather 20 = .ok (.getfield 69, 3) := by decide +kernel
theorem dX7_wouldRather_23 : decode cX7_wouldRather 23 = .ok (.iload_n 1, 1) := by decide +kernel
theorem dX7_wouldRather_24 : decode cX7_wouldRather 24 = .ok (.iload_n 3, 1) := by decide +kernel
theorem dX7_wouldRather_25 : decode cX7_wouldRather 25 = .ok (.invokevirtual 178, 3) := by decide +kernel
theorem dX7_wouldRather_28 : decode cX7_wouldRather 28 = .ok (.istore 4, 2) := by decide +kernel
theorem dX7_wouldRather_30 : decode cX7_wouldRather 30 = .ok (.aload_n 0, 1) := by decide +kernel
theorem dX7_wouldRather_31 : decode cX7_wouldRather 31 = .ok (.getfield 69, 3) := by decide +kernel
theorem dX7_wouldRather_34 : decode cX7_wouldRather 34 = .ok (.iload_n 1, 1) := by decide +kernel
theorem dX7_wouldRather_35 : decode cX7_wouldRather 35 = .ok (.iload_n 2, 1) := by decide +kernel
theorem dX7_wouldRather_36 : decode cX7_wouldRather 36 = .ok (.invokevirtual 178, 3) := by decide +kernel
theorem dX7_wouldRather_39 : decode cX7_wouldRather 39 = .ok (.iload 4, 2) := by decide +kernel
theorem dX7_wouldRather_41 : decode cX7_wouldRather 41 = .ok (.if_icmp .le 7, 3) := by decide +kernel
theorem dX7_wouldRather_44 : decode cX7_wouldRather 44 = .ok (.iconst 1, 1) := by decide +kernel
theorem dX7_wouldRather_45 : decode cX7_wouldRather 45 = .ok (.goto 4, 3) := by decide +kernel
theorem dX7_wouldRather_48 : decode cX7_wouldRather 48 = .ok (.iconst 0, 1) := by decide +kernel
theorem dX7_wouldRather_49 : decode cX7_wouldRather 49 = .ok (.ireturn, 1) := by decide +kernel
theorem dX7_oilings_0 : decode cX7_oilings 0 = .ok (.iconst 0, 1) := by decide +kernel
theorem dX7_oilings_1 : decode cX7_oilings 1 = .ok (.istore_n 3, 1) := by decide +kernel
theorem dX7_oilings_2 : decode cX7_oilings 2 = .ok (.aload_n 0, 1) := by decide +kernel
theorem dX7_oilings_3 : decode cX7_oilings 3 = .ok (.getfield 19, 3) := by decide +kernel
theorem dX7_oilings_6 : decode cX7_oilings 6 = .ok (.getfield 157, 3) := by decide +kernel
theorem dX7_oilings_9 : decode cX7_oilings 9 = .ok (.iload_n 1, 1) := by decide +kernel
theorem dX7_oilings_10 : decode cX7_oilings 10 = .ok (.iaload, 1) := by decide +kernel
theorem dX7_oilings_11 : decode cX7_oilings 11 = .ok (.istore 4, 2) := by decide +kernel
theorem dX7_oilings_13 : decode cX7_oilings 13 = .ok (.iconst 0, 1) := by decide +kernel
theorem dX7_oilings_14 : decode cX7_oilings 14 = .ok (.istore 5, 2) := by decide +kernel
theorem dX7_oilings_16 : decode cX7_oilings 16 = .ok (.iload 5, 2) := by decide +kernel
theorem dX7_oilings_18 : decode cX7_oilings 18 = .ok (.iload_n 2, 1) := by decide +kernel
theorem dX7_oilings_19 : decode cX7_oilings 19 = .ok (.if_icmp .ge 32, 3) := by decide +kernel
theorem dX7_oilings_22 : decode cX7_oilings 22 = .ok (.iload 4, 2) := by decide +kernel
theorem dX7_oilings_24 : decode cX7_oilings 24 = .ok (.aload_n 0, 1) := by decide +kernel
theorem dX7_oilings_25 : decode cX7_oilings 25 = .ok (.getfield 69, 3) := by decide +kernel
theorem dX7_oilings_28 : decode cX7_oilings 28 = .ok (.getfield 154, 3) := by decide +kernel
theorem dX7_oilings_31 : decode cX7_oilings 31 = .ok (.iload_n 1, 1) := by decide +kernel
theorem dX7_oilings_32 : decode cX7_oilings 32 = .ok (.iaload, 1) := by decide +kernel
theorem dX7_oilings_33 : decode cX7_oilings 33 = .ok (.if_icmp .lt 9, 3) := by decide +kernel
theorem dX7_oilings_36 : decode cX7_oilings 36 = .ok (.iinc 3 1, 3) := by decide +kernel
theorem dX7_oilings_39 : decode cX7_oilings 39 = .ok (.iconst 0, 1) := by decide +kernel
theorem dX7_oilings_40 : decode cX7_oilings 40 = .ok (.istore 4, 2) := by decide +kernel
theorem dX7_oilings_42 : decode cX7_oilings 42 = .ok (.iinc 4 1, 3) := by decide +kernel
theorem dX7_oilings_45 : decode cX7_oilings 45 = .ok (.iinc 5 1, 3) := by decide +kernel
theorem dX7_oilings_48 : decode cX7_oilings 48 = .ok (.goto (-32), 3) := by decide +kernel
theorem dX7_oilings_51 : decode cX7_oilings 51 = .ok (.iload_n 3, 1) := by decide +kernel
theorem dX7_oilings_52 : decode cX7_oilings 52 = .ok (.ireturn, 1) := by decide +kernel
theorem dX7_ill_0 : decode cX7_ill 0 = .ok (.aload_n 0, 1) := by decide +kernel
theorem dX7_ill_1 : decode cX7_ill 1 = .ok (.getfield 69, 3) := by decide +kernel
theorem dX7_ill_4 : decode cX7_ill 4 = .ok (.iload_n 1, 1) := by decide +kernel
theorem dX7_ill_5 : decode cX7_ill 5 = .ok (.invokevirtual 168, 3) := by decide +kernel
theorem dX7_ill_8 : decode cX7_ill 8 = .ok (.ifCond .ne 6, 3) := by decide +kernel
theorem dX7_ill_11 : decode cX7_ill 11 = .ok (.ldc 153, 2) := by decide +kernel
theorem dX7_ill_13 : decode cX7_ill 13 = .ok (.ireturn, 1) := by decide +kernel
theorem dX7_ill_14 : decode cX7_ill 14 = .ok (.aload_n 0, 1) := by decide +kernel
theorem dX7_ill_15 : decode cX7_ill 15 = .ok (.getfield 33, 3) := by decide +kernel
theorem dX7_ill_18 : decode cX7_ill 18 = .ok (.getfield 140, 3) := by decide +kernel
theorem dX7_ill_21 : decode cX7_ill 21 = .ok (.bipush 6, 2) := by decide +kernel
theorem dX7_ill_23 : decode cX7_ill 23 = .ok (.if_icmp .lt 6, 3) := by decide +kernel
theorem dX7_ill_26 : decode cX7_ill 26 = .ok (.ldc 94, 2) := by decide +kernel
theorem dX7_ill_28 : decode cX7_ill 28 = .ok (.ireturn, 1) := by decide +kernel
theorem dX7_ill_29 : decode cX7_ill 29 = .ok (.aload_n 0, 1) := by decide +kernel
theorem dX7_ill_30 : decode cX7_ill 30 = .ok (.getfield 33, 3) := by decide +kernel
theorem dX7_ill_33 : decode cX7_ill 33 = .ok (.iload_n 1, 1) := by decide +kernel
theorem dX7_ill_34 : decode cX7_ill 34 = .ok (.iload_n 2, 1) := by decide +kernel
theorem dX7_ill_35 : decode cX7_ill 35 = .ok (.invokevirtual 257, 3) := by decide +kernel
theorem dX7_ill_38 : decode cX7_ill 38 = .ok (.ireturn, 1) := by decide +kernel
theorem dX7_mayBe_0 : decode cX7_mayBe 0 = .ok (.iconst 0, 1) := by decide +kernel
theorem dX7_mayBe_1 : decode cX7_mayBe 1 = .ok (.istore_n 1, 1) := by decide +kernel
theorem dX7_mayBe_2 : decode cX7_mayBe 2 = .ok (.iconst 0, 1) := by decide +kernel
theorem dX7_mayBe_3 : decode cX7_mayBe 3 = .ok (.istore_n 2, 1) := by decide +kernel
theorem dX7_mayBe_4 : decode cX7_mayBe 4 = .ok (.iload_n 2, 1) := by decide +kernel
theorem dX7_mayBe_5 : decode cX7_mayBe 5 = .ok (.aload_n 0, 1) := by decide +kernel
theorem dX7_mayBe_6 : decode cX7_mayBe 6 = .ok (.getfield 69, 3) := by decide +kernel
theorem dX7_mayBe_9 : decode cX7_mayBe 9 = .ok (.getfield 110, 3) := by decide +kernel
theorem dX7_mayBe_12 : decode cX7_mayBe 12 = .ok (.if_icmp .ge 33, 3) := by decide +kernel
theorem dX7_mayBe_15 : decode cX7_mayBe 15 = .ok (.aload_n 0, 1) := by decide +kernel
theorem dX7_mayBe_16 : decode cX7_mayBe 16 = .ok (.getfield 33, 3) := by decide +kernel
theorem dX7_mayBe_19 : decode cX7_mayBe 19 = .ok (.aload_n 0, 1) := by decide +kernel
theorem dX7_mayBe_20 : decode cX7_mayBe 20 = .ok (.getfield 19, 3) := by decide +kernel
theorem dX7_mayBe_23 : decode cX7_mayBe 23 = .ok (.iload_n 2, 1) := by decide +kernel
theorem dX7_mayBe_24 : decode cX7_mayBe 24 = .ok (.invokevirtual 237, 3) := by decide +kernel
theorem dX7_mayBe_27 : decode cX7_mayBe 27 = .ok (.invokevirtual 261, 3) := by decide +kernel
theorem dX7_mayBe_30 : decode cX7_mayBe 30 = .ok (.ifCond .eq 9, 3) := by decide +kernel
theorem dX7_mayBe_33 : decode cX7_mayBe 33 = .ok (.iload_n 1, 1) := by decide +kernel
theorem dX7_mayBe_34 : decode cX7_mayBe 34 = .ok (.iconst 1, 1) := by decide +kernel
theorem dX7_mayBe_35 : decode cX7_mayBe 35 = .ok (.iload_n 2, 1) := by decide +kernel
theorem dX7_mayBe_36 : decode cX7_mayBe 36 = .ok (.ishl, 1) := by decide +kernel
theorem dX7_mayBe_37 : decode cX7_mayBe 37 = .ok (.ior, 1) := by decide +kernel
theorem dX7_mayBe_38 : decode cX7_mayBe 38 = .ok (.istore_n 1, 1) := by decide +kernel
theorem dX7_mayBe_39 : decode cX7_mayBe 39 = .ok (.iinc 2 1, 3) := by decide +kernel
theorem dX7_mayBe_42 : decode cX7_mayBe 42 = .ok (.goto (-38), 3) := by decide +kernel
theorem dX7_mayBe_45 : decode cX7_mayBe 45 = .ok (.iload_n 1, 1) := by decide +kernel
theorem dX7_mayBe_46 : decode cX7_mayBe 46 = .ok (.ireturn, 1) := by decide +kernel
theorem dX7_ask_0 : decode cX7_ask 0 = .ok (.aload_n 0, 1) := by decide +kernel
theorem dX7_ask_1 : decode cX7_ask 1 = .ok (.invokevirtual 264, 3) := by decide +kernel
theorem dX7_ask_4 : decode cX7_ask 4 = .ok (.istore_n 1, 1) := by decide +kernel
theorem dX7_ask_5 : decode cX7_ask 5 = .ok (.iconst 0, 1) := by decide +kernel
theorem dX7_ask_6 : decode cX7_ask 6 = .ok (.istore_n 2, 1) := by decide +kernel
theorem dX7_ask_7 : decode cX7_ask 7 = .ok (.iload_n 2, 1) := by decide +kernel
theorem dX7_ask_8 : decode cX7_ask 8 = .ok (.aload_n 0, 1) := by decide +kernel
theorem dX7_ask_9 : decode cX7_ask 9 = .ok (.getfield 69, 3) := by decide +kernel
theorem dX7_ask_12 : decode cX7_ask 12 = .ok (.getfield 110, 3) := by decide +kernel
theorem dX7_ask_15 : decode cX7_ask 15 = .ok (.if_icmp .ge 23, 3) := by decide +kernel
theorem dX7_ask_18 : decode cX7_ask 18 = .ok (.aload_n 0, 1) := by decide +kernel
theorem dX7_ask_19 : decode cX7_ask 19 = .ok (.getfield 63, 3) := by decide +kernel
theorem dX7_ask_22 : decode cX7_ask 22 = .ok (.iload_n 2, 1) := by decide +kernel
theorem dX7_ask_23 : decode cX7_ask 23 = .ok (.aload_n 0, 1) := by decide +kernel
theorem dX7_ask_24 : decode cX7_ask 24 = .ok (.getfield 19, 3) := by decide +kernel
theorem dX7_ask_27 : decode cX7_ask 27 = .ok (.iload_n 2, 1) := by decide +kernel
theorem dX7_ask_28 : decode cX7_ask 28 = .ok (.invokevirtual 237, 3) := by decide +kernel
theorem dX7_ask_31 : decode cX7_ask 31 = .ok (.iastore, 1) := by decide +kernel
theorem dX7_ask_32 : decode cX7_ask 32 = .ok (.iinc 2 1, 3) := by decide +kernel
theorem dX7_ask_35 : decode cX7_ask 35 = .ok (.goto (-28), 3) := by decide +kernel
theorem dX7_ask_38 : decode cX7_ask 38 = .ok (.iconst (-1), 1) := by decide +kernel
theorem dX7_ask_39 : decode cX7_ask 39 = .ok (.istore_n 2, 1) := by decide +kernel
theorem dX7_ask_40 : decode cX7_ask 40 = .ok (.iload_n 1, 1) := by decide +kernel
theorem dX7_ask_41 : decode cX7_ask 41 = .ok (.invokestatic 243, 3) := by decide +kernel
theorem dX7_ask_44 : decode cX7_ask 44 = .ok (.istore_n 3, 1) := by decide +kernel
theorem dX7_ask_45 : decode cX7_ask 45 = .ok (.iconst 0, 1) := by decide +kernel
theorem dX7_ask_46 : decode cX7_ask 46 = .ok (.istore 4, 2) := by decide +kernel
theorem dX7_ask_48 : decode cX7_ask 48 = .ok (.iload 4, 2) := by decide +kernel
theorem dX7_ask_50 : decode cX7_ask 50 = .ok (.aload_n 0, 1) := by decide +kernel
theorem dX7_ask_51 : decode cX7_ask 51 = .ok (.getfield 69, 3) := by decide +kernel
theorem dX7_ask_54 : decode cX7_ask 54 = .ok (.getfield 110, 3) := by decide +kernel
theorem dX7_ask_57 : decode cX7_ask 57 = .ok (.if_icmp .ge 30, 3) := by decide +kernel
theorem dX7_ask_60 : decode cX7_ask 60 = .ok (.aload_n 0, 1) := by decide +kernel
theorem dX7_ask_61 : decode cX7_ask 61 = .ok (.iload_n 1, 1) := by decide +kernel
theorem dX7_ask_62 : decode cX7_ask 62 = .ok (.iload 4, 2) := by decide +kernel
theorem dX7_ask_64 : decode cX7_ask 64 = .ok (.invokevirtual 267, 3) := by decide +kernel
theorem dX7_ask_67 : decode cX7_ask 67 = .ok (.istore 5, 2) := by decide +kernel
theorem dX7_ask_69 : decode cX7_ask 69 = .ok (.iload 5, 2) := by decide +kernel
theorem dX7_ask_71 : decode cX7_ask 71 = .ok (.iload_n 3, 1) := by decide +kernel
theorem dX7_ask_72 : decode cX7_ask 72 = .ok (.if_icmp .ge 9, 3) := by decide +kernel
theorem dX7_ask_75 : decode cX7_ask 75 = .ok (.iload 4, 2) := by decide +kernel
theorem dX7_ask_77 : decode cX7_ask 77 = .ok (.istore_n 2, 1) := by decide +kernel
theorem dX7_ask_78 : decode cX7_ask 78 = .ok (.iload 5, 2) := by decide +kernel
theorem dX7_ask_80 : decode cX7_ask 80 = .ok (.istore_n 3, 1) := by decide +kernel
theorem dX7_ask_81 : decode cX7_ask 81 = .ok (.iinc 4 1, 3) := by decide +kernel
theorem dX7_ask_84 : decode cX7_ask 84 = .ok (.goto (-36), 3) := by decide +kernel
theorem dX7_ask_87 : decode cX7_ask 87 = .ok (.iload_n 2, 1) := by decide +kernel
theorem dX7_ask_88 : decode cX7_ask 88 = .ok (.ireturn, 1) := by decide +kernel
theorem dX7_write_0 : decode cX7_write 0 = .ok (.aload_n 0, 1) := by decide +kernel
theorem dX7_write_1 : decode cX7_write 1 = .ok (.getfield 69, 3) := by decide +kernel
theorem dX7_write_4 : decode cX7_write 4 = .ok (.iload_n 1, 1) := by decide +kernel
theorem dX7_write_5 : decode cX7_write 5 = .ok (.invokevirtual 168, 3) := by decide +kernel
theorem dX7_write_8 : decode cX7_write 8 = .ok (.ifCond .ne 6, 3) := by decide +kernel
theorem dX7_write_11 : decode cX7_write 11 = .ok (.ldc 153, 2) := by decide +kernel
theorem dX7_write_13 : decode cX7_write 13 = .ok (.ireturn, 1) := by decide +kernel
theorem dX7_write_14 : decode cX7_write 14 = .ok (.iload_n 2, 1) := by decide +kernel
theorem dX7_write_15 : decode cX7_write 15 = .ok (.ifCond .eq 11, 3) := by decide +kernel
theorem dX7_write_18 : decode cX7_write 18 = .ok (.iload_n 2, 1) := by decide +kernel
theorem dX7_write_19 : decode cX7_write 19 = .ok (.iconst 1, 1) := by decide +kernel
theorem dX7_write_20 : decode cX7_write 20 = .ok (.if_icmp .eq 6, 3) := by decide +kernel
theorem dX7_write_23 : decode cX7_write 23 = .ok (.ldc 90, 2) := by decide +kernel
theorem dX7_write_25 : decode cX7_write 25 = .ok (.ireturn, 1) := by decide +kernel
theorem dX7_write_26 : decode cX7_write 26 = .ok (.aload_n 0, 1) := by decide +kernel
theorem dX7_write_27 : decode cX7_write 27 = .ok (.getfield 33, 3) := by decide +kernel
theorem dX7_write_30 : decode cX7_write 30 = .ok (.getfield 143, 3) := by decide +kernel
theorem dX7_write_33 : decode cX7_write 33 = .ok (.bipush 15, 2) := by decide +kernel
theorem dX7_write_35 : decode cX7_write 35 = .ok (.if_icmp .lt 6, 3) := by decide +kernel
theorem dX7_write_38 : decode cX7_write 38 = .ok (.ldc 94, 2) := by decide +kernel
theorem dX7_write_40 : decode cX7_write 40 = .ok (.ireturn, 1) := by decide +kernel
theorem dX7_write_41 : decode cX7_write 41 = .ok (.aload_n 0, 1) := by decide +kernel
theorem dX7_write_42 : decode cX7_write 42 = .ok (.getfield 33, 3) := by decide +kernel
theorem dX7_write_45 : decode cX7_write 45 = .ok (.iload_n 1, 1) := by decide +kernel
theorem dX7_write_46 : decode cX7_write 46 = .ok (.iload_n 2, 1) := by decide +kernel
theorem dX7_write_47 : decode cX7_write 47 = .ok (.invokevirtual 270, 3) := by decide +kernel
theorem dX7_write_50 : decode cX7_write 50 = .ok (.ireturn, 1) := by decide +kernel
theorem dX7_tear_0 : decode cX7_tear 0 = .ok (.aload_n 0, 1) := by decide +kernel
theorem dX7_tear_1 : decode cX7_tear 1 = .ok (.getfield 33, 3) := by decide +kernel
theorem dX7_tear_4 : decode cX7_tear 4 = .ok (.getfield 140, 3) := by decide +kernel
theorem dX7_tear_7 : decode cX7_tear 7 = .ok (.aload_n 0, 1) := by decide +kernel
theorem dX7_tear_8 : decode cX7_tear 8 = .ok (.getfield 33, 3) := by decide +kernel
theorem dX7_tear_11 : decode cX7_tear 11 = .ok (.getfield 143, 3) := by decide +kernel
theorem dX7_tear_14 : decode cX7_tear 14 = .ok (.iadd, 1) := by decide +kernel
theorem dX7_tear_15 : decode cX7_tear 15 = .ok (.istore_n 1, 1) := by decide +kernel
theorem dX7_tear_16 : decode cX7_tear 16 = .ok (.aload_n 0, 1) := by decide +kernel
theorem dX7_tear_17 : decode cX7_tear 17 = .ok (.getfield 33, 3) := by decide +kernel
theorem dX7_tear_20 : decode cX7_tear 20 = .ok (.invokevirtual 109, 3) := by decide +kernel
theorem dX7_tear_23 : decode cX7_tear 23 = .ok (.iload_n 1, 1) := by decide +kernel
theorem dX7_tear_24 : decode cX7_tear 24 = .ok (.ireturn, 1) := by decide +kernel
theorem dX7_judge_0 : decode cX7_judge 0 = .ok (.aload_n 0, 1) := by decide +kernel
theorem dX7_judge_1 : decode cX7_judge 1 = .ok (.getfield 33, 3) := by decide +kernel
theorem dX7_judge_4 : decode cX7_judge 4 = .ok (.aload_n 0, 1) := by decide +kernel
theorem dX7_judge_5 : decode cX7_judge 5 = .ok (.getfield 19, 3) := by decide +kernel
theorem dX7_judge_8 : decode cX7_judge 8 = .ok (.getfield 125, 3) := by decide +kernel
theorem dX7_judge_11 : decode cX7_judge 11 = .ok (.invokevirtual 273, 3) := by decide +kernel
theorem dX7_judge_14 : decode cX7_judge 14 = .ok (.ireturn, 1) := by decide +kernel
theorem dX7_greatestPart_0 : decode cX7_greatestPart 0 = .ok (.iconst 0, 1) := by decide +kernel
theorem dX7_greatestPart_1 : decode cX7_greatestPart 1 = .ok (.istore_n 3, 1) := by decide +kernel
theorem dX7_greatestPart_2 : decode cX7_greatestPart 2 = .ok (.iconst 0, 1) := by decide +kernel
theorem dX7_greatestPart_3 : decode cX7_greatestPart 3 = .ok (.istore 4, 2) := by decide +kernel
theorem dX7_greatestPart_5 : decode cX7_greatestPart 5 = .ok (.iload 4, 2) := by decide +kernel
theorem dX7_greatestPart_7 : decode cX7_greatestPart 7 = .ok (.aload_n 0, 1) := by decide +kernel
theorem dX7_greatestPart_8 : decode cX7_greatestPart 8 = .ok (.getfield 69, 3) := by decide +kernel
theorem dX7_greatestPart_11 : decode cX7_greatestPart 11 = .ok (.getfield 110, 3) := by decide +kernel
theorem dX7_greatestPart_14 : decode cX7_greatestPart 14 = .ok (.if_icmp .ge 37, 3) := by decide +kernel
theorem dX7_greatestPart_17 : decode cX7_greatestPart 17 = .ok (.iload_n 1, 1) := by decide +kernel
theorem dX7_greatestPart_18 : decode cX7_greatestPart 18 = .ok (.iload 4, 2) := by decide +kernel
theorem dX7_greatestPart_20 : decode cX7_greatestPart 20 = .ok (.ishr, 1) := by decide +kernel
theorem dX7_greatestPart_21 : decode cX7_greatestPart 21 = .ok (.iconst 1, 1) := by decide +kernel
theorem dX7_greatestPart_22 : decode cX7_greatestPart 22 = .ok (.iand, 1) := by decide +kernel
theorem dX7_greatestPart_23 : decode cX7_greatestPart 23 = .ok (.iconst 1, 1) := by decide +kernel
theorem dX7_greatestPart_24 : decode cX7_greatestPart 24 = .ok (.if_icmp .ne 21, 3) := by decide +kernel
theorem dX7_greatestPart_27 : decode cX7_greatestPart 27 = .ok (.aload_n 0, 1) := by decide +kernel
theorem dX7_greatestPart_28 : decode cX7_greatestPart 28 = .ok (.getfield 63, 3) := by decide +kernel
theorem dX7_greatestPart_31 : decode cX7_greatestPart 31 = .ok (.iload 4, 2) := by decide +kernel
theorem dX7_greatestPart_33 : decode cX7_greatestPart 33 = .ok (.iaload, 1) := by decide +kernel
theorem dX7_greatestPart_34 : decode cX7_greatestPart 34 = .ok (.iload_n 2, 1) := by decide +kernel
theorem dX7_greatestPart_35 : decode cX7_greatestPart 35 = .ok (.ishr, 1) := by decide +kernel
theorem dX7_greatestPart_36 : decode cX7_greatestPart 36 = .ok (.iconst 1, 1) := by decide +kernel
theorem dX7_greatestPart_37 : decode cX7_greatestPart 37 = .ok (.iand, 1) := by decide +kernel
theorem dX7_greatestPart_38 : decode cX7_greatestPart 38 = .ok (.iconst 1, 1) := by decide +kernel
theorem dX7_greatestPart_39 : decode cX7_greatestPart 39 = .ok (.if_icmp .ne 6, 3) := by decide +kernel
theorem dX7_greatestPart_42 : decode cX7_greatestPart 42 = .ok (.iinc 3 1, 3) := by decide +kernel
theorem dX7_greatestPart_45 : decode cX7_greatestPart 45 = .ok (.iinc 4 1, 3) := by decide +kernel
theorem dX7_greatestPart_48 : decode cX7_greatestPart 48 = .ok (.goto (-43), 3) := by decide +kernel
theorem dX7_greatestPart_51 : decode cX7_greatestPart 51 = .ok (.iload_n 3, 1) := by decide +kernel
theorem dX7_greatestPart_52 : decode cX7_greatestPart 52 = .ok (.iload_n 1, 1) := by decide +kernel
theorem dX7_greatestPart_53 : decode cX7_greatestPart 53 = .ok (.invokestatic 243, 3) := by decide +kernel
theorem dX7_greatestPart_56 : decode cX7_greatestPart 56 = .ok (.iload_n 3, 1) := by decide +kernel
theorem dX7_greatestPart_57 : decode cX7_greatestPart 57 = .ok (.isub, 1) := by decide +kernel
theorem dX7_greatestPart_58 : decode cX7_greatestPart 58 = .ok (.invokestatic 248, 3) := by decide +kernel
theorem dX7_greatestPart_61 : decode cX7_greatestPart 61 = .ok (.ireturn, 1) := by decide +kernel
theorem dX7_seed_0 : decode cX7_seed 0 = .ok (.iload_n 1, 1) := by decide +kernel
theorem dX7_seed_1 : decode cX7_seed 1 = .ok (.ifCond .ge 6, 3) := by decide +kernel
theorem dX7_seed_4 : decode cX7_seed 4 = .ok (.ldc 90, 2) := by decide +kernel
theorem dX7_seed_6 : decode cX7_seed 6 = .ok (.ireturn, 1) := by decide +kernel
theorem dX7_seed_7 : decode cX7_seed 7 = .ok (.aload_n 0, 1) := by decide +kernel
theorem dX7_seed_8 : decode cX7_seed 8 = .ok (.getfield 87, 3) := by decide +kernel
theorem dX7_seed_11 : decode cX7_seed 11 = .ok (.istore_n 2, 1) := by decide +kernel
theorem dX7_seed_12 : decode cX7_seed 12 = .ok (.aload_n 0, 1) := by decide +kernel
theorem dX7_seed_13 : decode cX7_seed 13 = .ok (.iload_n 1, 1) := by decide +kernel
theorem dX7_seed_14 : decode cX7_seed 14 = .ok (.putfield 87, 3) := by decide +kernel
theorem dX7_seed_17 : decode cX7_seed 17 = .ok (.iload_n 2, 1) := by decide +kernel
theorem dX7_seed_18 : decode cX7_seed 18 = .ok (.ireturn, 1) := by decide +kernel
theorem dX7_keep_0 : decode cX7_keep 0 = .ok (.iload_n 1, 1) := by decide +kernel
theorem dX7_keep_1 : decode cX7_keep 1 = .ok (.ifCond .lt 8, 3) := by decide +kernel
theorem dX7_keep_4 : decode cX7_keep 4 = .ok (.iload_n 1, 1) := by decide +kernel
theorem dX7_keep_5 : decode cX7_keep 5 = .ok (.iconst 2, 1) := by decide +kernel
theorem dX7_keep_6 : decode cX7_keep 6 = .ok (.if_icmp .lt 6, 3) := by decide +kernel
theorem dX7_keep_9 : decode cX7_keep 9 = .ok (.ldc 153, 2) := by decide +kernel
theorem dX7_keep_11 : decode cX7_keep 11 = .ok (.ireturn, 1) := by decide +kernel
theorem dX7_keep_12 : decode cX7_keep 12 = .ok (.aload_n 0, 1) := by decide +kernel
theorem dX7_keep_13 : decode cX7_keep 13 = .ok (.getfield 51, 3) := by decide +kernel
theorem dX7_keep_16 : decode cX7_keep 16 = .ok (.iload_n 1, 1) := by decide +kernel
theorem dX7_keep_17 : decode cX7_keep 17 = .ok (.aaload, 1) := by decide +kernel
theorem dX7_keep_18 : decode cX7_keep 18 = .ok (.aload_n 0, 1) := by decide +kernel
theorem dX7_keep_19 : decode cX7_keep 19 = .ok (.getfield 19, 3) := by decide +kernel
theorem dX7_keep_22 : decode cX7_keep 22 = .ok (.invokevirtual 276, 3) := by decide +kernel
theorem dX7_keep_25 : decode cX7_keep 25 = .ok (.aload_n 0, 1) := by decide +kernel
theorem dX7_keep_26 : decode cX7_keep 26 = .ok (.getfield 59, 3) := by decide +kernel
theorem dX7_keep_29 : decode cX7_keep 29 = .ok (.iload_n 1, 1) := by decide +kernel
theorem dX7_keep_30 : decode cX7_keep 30 = .ok (.aload_n 0, 1) := by decide +kernel
theorem dX7_keep_31 : decode cX7_keep 31 = .ok (.getfield 87, 3) := by decide +kernel
theorem dX7_keep_34 : decode cX7_keep 34 = .ok (.iastore, 1) := by decide +kernel
theorem dX7_keep_35 : decode cX7_keep 35 = .ok (.aload_n 0, 1) := by decide +kernel
theorem dX7_keep_36 : decode cX7_keep 36 = .ok (.getfield 55, 3) := by decide +kernel
theorem dX7_keep_39 : decode cX7_keep 39 = .ok (.iload_n 1, 1) := by decide +kernel
theorem dX7_keep_40 : decode cX7_keep 40 = .ok (.iconst 1, 1) := by decide +kernel
theorem dX7_keep_41 : decode cX7_keep 41 = .ok (.bastore, 1) := by decide +kernel
theorem dX7_keep_42 : decode cX7_keep 42 = .ok (.aload_n 0, 1) := by decide +kernel
theorem dX7_keep_43 : decode cX7_keep 43 = .ok (.getfield 26, 3) := by decide +kernel
theorem dX7_keep_46 : decode cX7_keep 46 = .ok (.invokevirtual 106, 3) := by decide +kernel
theorem dX7_keep_49 : decode cX7_keep 49 = .ok (.iconst 1, 1) := by decide +kernel
theorem dX7_keep_50 : decode cX7_keep 50 = .ok (.ireturn, 1) := by decide +kernel
theorem dX7_goBack_0 : decode cX7_goBack 0 = .ok (.iload_n 1, 1) := by decide +kernel
theorem dX7_goBack_1 : decode cX7_goBack 1 = .ok (.ifCond .lt 8, 3) := by decide +kernel
theorem dX7_goBack_4 : decode cX7_goBack 4 = .ok (.iload_n 1, 1) := by decide +kernel
theorem dX7_goBack_5 : decode cX7_goBack 5 = .ok (.iconst 2, 1) := by decide +kernel
theorem dX7_goBack_6 : decode cX7_goBack 6 = .ok (.if_icmp .lt 6, 3) := by decide +kernel
theorem dX7_goBack_9 : decode cX7_goBack 9 = .ok (.ldc 153, 2) := by decide +kernel
theorem dX7_goBack_11 : decode cX7_goBack 11 = .ok (.ireturn, 1) := by decide +kernel
theorem dX7_goBack_12 : decode cX7_goBack 12 = .ok (.aload_n 0, 1) := by decide +kernel
theorem dX7_goBack_13 : decode cX7_goBack 13 = .ok (.getfield 55, 3) := by decide +kernel
theorem dX7_goBack_16 : decode cX7_goBack 16 = .ok (.iload_n 1, 1) := by decide +kernel
theorem dX7_goBack_17 : decode cX7_goBack 17 = .ok (.baload, 1) := by decide +kernel
theorem dX7_goBack_18 : decode cX7_goBack 18 = .ok (.ifCond .ne 6, 3) := by decide +kernel
theorem dX7_goBack_21 : decode cX7_goBack 21 = .ok (.ldc 194, 2) := by decide +kernel
theorem dX7_goBack_23 : decode cX7_goBack 23 = .ok (.ireturn, 1) := by decide +kernel
theorem dX7_goBack_24 : decode cX7_goBack 24 = .ok (.aload_n 0, 1) := by decide +kernel
theorem dX7_goBack_25 : decode cX7_goBack 25 = .ok (.getfield 19, 3) := by decide +kernel
theorem dX7_goBack_28 : decode cX7_goBack 28 = .ok (.aload_n 0, 1) := by decide +kernel
theorem dX7_goBack_29 : decode cX7_goBack 29 = .ok (.getfield 51, 3) := by decide +kernel
theorem dX7_goBack_32 : decode cX7_goBack 32 = .ok (.iload_n 1, 1) := by decide +kernel
theorem dX7_goBack_33 : decode cX7_goBack 33 = .ok (.aaload, 1) := by decide +kernel
theorem dX7_goBack_34 : decode cX7_goBack 34 = .ok (.invokevirtual 276, 3) := by decide +kernel
theorem dX7_goBack_37 : decode cX7_goBack 37 = .ok (.aload_n 0, 1) := by decide +kernel
theorem dX7_goBack_38 : decode cX7_goBack 38 = .ok (.aload_n 0, 1) := by decide +kernel
theorem dX7_goBack_39 : decode cX7_goBack 39 = .ok (.getfield 59, 3) := by decide +kernel
theorem dX7_goBack_42 : decode cX7_goBack 42 = .ok (.iload_n 1, 1) := by decide +kernel
theorem dX7_goBack_43 : decode cX7_goBack 43 = .ok (.iaload, 1) := by decide +kernel
theorem dX7_goBack_44 : decode cX7_goBack 44 = .ok (.putfield 87, 3) := by decide +kernel
theorem dX7_goBack_47 : decode cX7_goBack 47 = .ok (.aload_n 0, 1) := by decide +kernel
theorem dX7_goBack_48 : decode cX7_goBack 48 = .ok (.getfield 26, 3) := by decide +kernel
theorem dX7_goBack_51 : decode cX7_goBack 51 = .ok (.invokevirtual 106, 3) := by decide +kernel
theorem dX7_goBack_54 : decode cX7_goBack 54 = .ok (.iconst 1, 1) := by decide +kernel
theorem dX7_goBack_55 : decode cX7_goBack 55 = .ok (.ireturn, 1) := by decide +kernel
theorem dX8_init_0 : decode cX8_init 0 = .ok (.aload_n 0, 1) := by decide +kernel
theorem dX8_init_1 : decode cX8_init 1 = .ok (.invokespecial 1, 3) := by decide +kernel
theorem dX8_init_4 : decode cX8_init 4 = .ok (.aload_n 0, 1) := by decide +kernel
theorem dX8_init_5 : decode cX8_init 5 = .ok (.iconst 5, 1) := by decide +kernel
theorem dX8_init_6 : decode cX8_init 6 = .ok (.newarray .int, 2) := by decide +kernel
theorem dX8_init_8 : decode cX8_init 8 = .ok (.putfield 7, 3) := by decide +kernel
theorem dX8_init_11 : decode cX8_init 11 = .ok (.aload_n 0, 1) := by decide +kernel
theorem dX8_init_12 : decode cX8_init 12 = .ok (.bipush 49, 2) := by decide +kernel
theorem dX8_init_14 : decode cX8_init 14 = .ok (.newarray .int, 2) := by decide +kernel
theorem dX8_init_16 : decode cX8_init 16 = .ok (.putfield 13, 3) := by decide +kernel
theorem dX8_init_19 : decode cX8_init 19 = .ok (.aload_n 0, 1) := by decide +kernel
theorem dX8_init_20 : decode cX8_init 20 = .ok (.bipush 55, 2) := by decide +kernel
theorem dX8_init_22 : decode cX8_init 22 = .ok (.newarray .int, 2) := by decide +kernel
theorem dX8_init_24 : decode cX8_init 24 = .ok (.putfield 16, 3) := by decide +kernel
theorem dX8_init_27 : decode cX8_init 27 = .ok (.aload_n 0, 1) := by decide +kernel
theorem dX8_init_28 : decode cX8_init 28 = .ok (.bipush 21, 2) := by decide +kernel
theorem dX8_init_30 : decode cX8_init 30 = .ok (.newarray .int, 2) := by decide +kernel
theorem dX8_init_32 : decode cX8_init 32 = .ok (.putfield 19, 3) := by decide +kernel
theorem dX8_init_35 : decode cX8_init 35 = .ok (.aload_n 0, 1) := by decide +kernel
theorem dX8_init_36 : decode cX8_init 36 = .ok (.bipush 21, 2) := by decide +kernel
theorem dX8_init_38 : decode cX8_init 38 = .ok (.newarray .int, 2) := by decide +kernel
theorem dX8_init_40 : decode cX8_init 40 = .ok (.putfield 22, 3) := by decide +kernel
theorem dX8_init_43 : decode cX8_init 43 = .ok (.aload_n 0, 1) := by decide +kernel
theorem dX8_init_44 : decode cX8_init 44 = .ok (.sipush 240, 3) := by decide +kernel
theorem dX8_init_47 : decode cX8_init 47 = .ok (.newarray .int, 2) := by decide +kernel
theorem dX8_init_49 : decode cX8_init 49 = .ok (.putfield 25, 3) := by decide +kernel
theorem dX8_init_52 : decode cX8_init 52 = .ok (.aload_n 0, 1) := by decide +kernel
theorem dX8_init_53 : decode cX8_init 53 = .ok (.iconst (-1), 1) := by decide +kernel
theorem dX8_init_54 : decode cX8_init 54 = .ok (.putfield 28, 3) := by decide +kernel
theorem dX8_init_57 : decode cX8_init 57 = .ok (.aload_n 0, 1) := by decide +kernel
theorem dX8_init_58 : decode cX8_init 58 = .ok (.iconst 5, 1) := by decide +kernel
theorem dX8_init_59 : decode cX8_init 59 = .ok (.newarray .int, 2) := by decide +kernel
theorem dX8_init_61 : decode cX8_init 61 = .ok (.putfield 32, 3) := by decide +kernel
theorem dX8_init_64 : decode cX8_init 64 = .ok (.aload_n 0, 1) := by decide +kernel
theorem dX8_init_65 : decode cX8_init 65 = .ok (.bipush 7, 2) := by decide +kernel
theorem dX8_init_67 : decode cX8_init 67 = .ok (.newarray .int, 2) := by decide +kernel
theorem dX8_init_69 : decode cX8_init 69 = .ok (.putfield 35, 3) := by decide +kernel
theorem dX8_init_72 : decode cX8_init 72 = .ok (.aload_n 0, 1) := by decide +kernel
theorem dX8_init_73 : decode cX8_init 73 = .ok (.bipush 7, 2) := by decide +kernel
theorem dX8_init_75 : decode cX8_init 75 = .ok (.newarray .int, 2) := by decide +kernel
theorem dX8_init_77 : decode cX8_init 77 = .ok (.putfield 38, 3) := by decide +kernel
theorem dX8_init_80 : decode cX8_init 80 = .ok (.aload_n 0, 1) := by decide +kernel
theorem dX8_init_81 : decode cX8_init 81 = .ok (.bipush 49, 2) := by decide +kernel
theorem dX8_init_83 : decode cX8_init 83 = .ok (.newarray .int, 2) := by decide +kernel
theorem dX8_init_85 : decode cX8_init 85 = .ok (.putfield 41, 3) := by decide +kernel
theorem dX8_init_88 : decode cX8_init 88 = .ok (.aload_n 0, 1) := by decide +kernel
theorem dX8_init_89 : decode cX8_init 89 = .ok (.sipush 1100, 3) := by decide +kernel
theorem dX8_init_92 : decode cX8_init 92 = .ok (.newarray .int, 2) := by decide +kernel
theorem dX8_init_94 : decode cX8_init 94 = .ok (.putfield 44, 3) := by decide +kernel
theorem dX8_init_97 : decode cX8_init 97 = .ok (.aload_n 0, 1) := by decide +kernel
theorem dX8_init_98 : decode cX8_init 98 = .ok (.iconst 3, 1) := by decide +kernel
theorem dX8_init_99 : decode cX8_init 99 = .ok (.newarray .int, 2) := by decide +kernel
theorem dX8_init_101 : decode cX8_init 101 = .ok (.putfield 47, 3) := by decide +kernel
theorem dX8_init_104 : decode cX8_init 104 = .ok (.aload_n 0, 1) := by decide +kernel
theorem dX8_init_105 : decode cX8_init 105 = .ok (.bipush 7, 2) := by decide +kernel
theorem dX8_init_107 : decode cX8_init 107 = .ok (.newarray .int, 2) := by decide +kernel
theorem dX8_init_109 : decode cX8_init 109 = .ok (.putfield 50, 3) := by decide +kernel
theorem dX8_init_112 : decode cX8_init 112 = .ok (.aload_n 0, 1) := by decide +kernel
theorem dX8_init_113 : decode cX8_init 113 = .ok (.bipush 7, 2) := by decide +kernel
theorem dX8_init_115 : decode cX8_init 115 = .ok (.newarray .int, 2) := by decide +kernel
theorem dX8_init_117 : decode cX8_init 117 = .ok (.putfield 53, 3) := by decide +kernel
theorem dX8_init_120 : decode cX8_init 120 = .ok (.aload_n 0, 1) := by decide +kernel
theorem dX8_init_121 : decode cX8_init 121 = .ok (.sipush 10648, 3) := by decide +kernel
theorem dX8_init_124 : decode cX8_init 124 = .ok (.newarray .int, 2) := by decide +kernel
theorem dX8_init_126 : decode cX8_init 126 = .ok (.putfield 56, 3) := by decide +kernel
theorem dX8_init_129 : decode cX8_init 129 = .ok (.aload_n 0, 1) := by decide +kernel
theorem dX8_init_130 : decode cX8_init 130 = .ok (.sipush 10648, 3) := by decide +kernel
theorem dX8_init_133 : decode cX8_init 133 = .ok (.newarray .int, 2) := by decide +kernel
theorem dX8_init_135 : decode cX8_init 135 = .ok (.putfield 59, 3) := by decide +kernel
theorem dX8_init_138 : decode cX8_init 138 = .ok (.aload_n 0, 1) := by decide +kernel
theorem dX8_init_139 : decode cX8_init 139 = .ok (.sipush 128, 3) := by decide +kernel
theorem dX8_init_142 : decode cX8_init 142 = .ok (.newarray .boolean, 2) := by decide +kernel
theorem dX8_init_144 : decode cX8_init 144 = .ok (.putfield 62, 3) := by decide +kernel
theorem dX8_init_147 : decode cX8_init 147 = .ok (.aload_n 0, 1) := by decide +kernel
theorem dX8_init_148 : decode cX8_init 148 = .ok (.sipush 128, 3) := by decide +kernel
theorem dX8_init_151 : decode cX8_init 151 = .ok (.newarray .boolean, 2) := by decide +kernel
theorem dX8_init_153 : decode cX8_init 153 = .ok (.putfield 66, 3) := by decide +kernel
theorem dX8_init_156 : decode cX8_init 156 = .ok (.aload_n 0, 1) := by decide +kernel
theorem dX8_init_157 : decode cX8_init 157 = .ok (.bipush 6, 2) := by decide +kernel
theorem dX8_init_159 : decode cX8_init 159 = .ok (.newarray .int, 2) := by decide +kernel
theorem dX8_init_161 : decode cX8_init 161 = .ok (.putfield 69, 3) := by decide +kernel
theorem dX8_init_164 : decode cX8_init 164 = .ok (.aload_n 0, 1) := by decide +kernel
theorem dX8_init_165 : decode cX8_init 165 = .ok (.bipush 6, 2) := by decide +kernel
theorem dX8_init_167 : decode cX8_init 167 = .ok (.newarray .boolean, 2) := by decide +kernel
theorem dX8_init_169 : decode cX8_init 169 = .ok (.putfield 72, 3) := by decide +kernel
theorem dX8_init_172 : decode cX8_init 172 = .ok (.aload_n 0, 1) := by decide +kernel
theorem dX8_init_173 : decode cX8_init 173 = .ok (.bipush 15, 2) := by decide +kernel
theorem dX8_init_175 : decode cX8_init 175 = .ok (.newarray .int, 2) := by decide +kernel
theorem dX8_init_177 : decode cX8_init 177 = .ok (.putfield 75, 3) := by decide +kernel
theorem dX8_init_180 : decode cX8_init 180 = .ok (.aload_n 0, 1) := by decide +kernel
theorem dX8_init_181 : decode cX8_init 181 = .ok (.bipush 15, 2) := by decide +kernel
theorem dX8_init_183 : decode cX8_init 183 = .ok (.newarray .int, 2) := by decide +kernel
theorem dX8_init_185 : decode cX8_init 185 = .ok (.putfield 78, 3) := by decide +kernel
theorem dX8_init_188 : decode cX8_init 188 = .ok (.aload_n 0, 1) := by decide +kernel
theorem dX8_init_189 : decode cX8_init 189 = .ok (.bipush 112, 2) := by decide +kernel
theorem dX8_init_191 : decode cX8_init 191 = .ok (.newarray .int, 2) := by decide +kernel
theorem dX8_init_193 : decode cX8_init 193 = .ok (.putfield 81, 3) := by decide +kernel
theorem dX8_init_196 : decode cX8_init 196 = .ok (.aload_n 0, 1) := by decide +kernel
theorem dX8_init_197 : decode cX8_init 197 = .ok (.iconst 2, 1) := by decide +kernel
theorem dX8_init_198 : decode cX8_init 198 = .ok (.newarray .boolean, 2) := by decide +kernel
theorem dX8_init_200 : decode cX8_init 200 = .ok (.putfield 84, 3) := by decide +kernel
theorem dX8_init_203 : decode cX8_init 203 = .ok (.iconst 0, 1) := by decide +kernel
theorem dX8_init_204 : decode cX8_init 204 = .ok (.istore_n 1, 1) := by decide +kernel
theorem dX8_init_205 : decode cX8_init 205 = .ok (.iconst 0, 1) := by decide +kernel
theorem dX8_init_206 : decode cX8_init 206 = .ok (.istore_n 2, 1) := by decide +kernel
theorem dX8_init_207 : decode cX8_init 207 = .ok (.iload_n 2, 1) := by decide +kernel
theorem dX8_init_208 : decode cX8_init 208 = .ok (.bipush 49, 2) := by decide +kernel
theorem dX8_init_210 : decode cX8_init 210 = .ok (.if_icmp .ge 43, 3) := by decide +kernel
theorem dX8_init_213 : decode cX8_init 213 = .ok (.iload_n 2, 1) := by decide +kernel
theorem dX8_init_214 : decode cX8_init 214 = .ok (.bipush 7, 2) := by decide +kernel
theorem dX8_init_216 : decode cX8_init 216 = .ok (.idiv, 1) := by decide +kernel
theorem dX8_init_217 : decode cX8_init 217 = .ok (.iload_n 2, 1) := by decide +kernel
theorem dX8_init_218 : decode cX8_init 218 = .ok (.bipush 7, 2) := by decide +kernel
theorem dX8_init_220 : decode cX8_init 220 = .ok (.irem, 1) := by decide +kernel
theorem dX8_init_221 : decode cX8_init 221 = .ok (.if_icmp .ge 26, 3) := by decide +kernel
theorem dX8_init_224 : decode cX8_init 224 = .ok (.aload_n 0, 1) := by decide +kernel
theorem dX8_init_225 : decode cX8_init 225 = .ok (.getfield 19, 3) := by decide +kernel
theorem dX8_init_228 : decode cX8_init 228 = .ok (.iload_n 1, 1) := by decide +kernel
theorem dX8_init_229 : decode cX8_init 229 = .ok (.iload_n 2, 1) := by decide +kernel
theorem dX8_init_230 : decode cX8_init 230 = .ok (.bipush 7, 2) := by decide +kernel
theorem dX8_init_232 : decode cX8_init 232 = .ok (.idiv, 1) := by decide +kernel
theorem dX8_init_233 : decode cX8_init 233 = .ok (.iastore, 1) := by decide +kernel
theorem dX8_init_234 : decode cX8_init 234 = .ok (.aload_n 0, 1) := by decide +kernel
theorem dX8_init_235 : decode cX8_init 235 = .ok (.getfield 22, 3) := by decide +kernel
theorem dX8_init_238 : decode cX8_init 238 = .ok (.iload_n 1, 1) := by decide +kernel
theorem dX8_init_239 : decode cX8_init 239 = .ok (.iload_n 2, 1) := by decide +kernel
theorem dX8_init_240 : decode cX8_init 240 = .ok (.bipush 7, 2) := by decide +kernel
theorem dX8_init_242 : decode cX8_init 242 = .ok (.irem, 1) := by decide +kernel
theorem dX8_init_243 : decode cX8_init 243 = .ok (.iastore, 1) := by decide +kernel
theorem dX8_init_244 : decode cX8_init 244 = .ok (.iinc 1 1, 3) := by decide +kernel
theorem dX8_init_247 : decode cX8_init 247 = .ok (.iinc 2 1, 3) := by decide +kernel
theorem dX8_init_250 : decode cX8_init 250 = .ok (.goto (-43), 3) := by decide +kernel
theorem dX8_init_253 : decode cX8_init 253 = .ok (.iconst 0, 1) := by decide +kernel
theorem dX8_init_254 : decode cX8_init 254 = .ok (.istore_n 2, 1) := by decide +kernel
theorem dX8_init_255 : decode cX8_init 255 = .ok (.iload_n 2, 1) := by decide +kernel
theorem dX8_init_256 : decode cX8_init 256 = .ok (.bipush 7, 2) := by decide +kernel
theorem dX8_init_258 : decode cX8_init 258 = .ok (.if_icmp .ge 19, 3) := by decide +kernel
theorem dX8_init_261 : decode cX8_init 261 = .ok (.aload_n 0, 1) := by decide +kernel
theorem dX8_init_262 : decode cX8_init 262 = .ok (.getfield 16, 3) := by decide +kernel
theorem dX8_init_265 : decode cX8_init 265 = .ok (.bipush 7, 2) := by decide +kernel
theorem dX8_init_267 : decode cX8_init 267 = .ok (.iload_n 2, 1) := by decide +kernel
theorem dX8_init_268 : decode cX8_init 268 = .ok (.iadd, 1) := by decide +kernel
theorem dX8_init_269 : decode cX8_init 269 = .ok (.iconst (-1), 1) := by decide +kernel
theorem dX8_init_270 : decode cX8_init 270 = .ok (.iastore, 1) := by decide +kernel
theorem dX8_init_271 : decode cX8_init 271 = .ok (.iinc 2 1, 3) := by decide +kernel
theorem dX8_init_274 : decode cX8_init 274 = .ok (.goto (-19), 3) := by decide +kernel
theorem dX8_init_277 : decode cX8_init 277 = .ok (.return_, 1) := by decide +kernel
theorem dX8_in_0 : decode cX8_in 0 = .ok (.lload_n 0, 1) := by decide +kernel
theorem dX8_in_1 : decode cX8_in 1 = .ok (.lload_n 2, 1) := by decide +kernel
theorem dX8_in_2 : decode cX8_in 2 = .ok (.lcmp, 1) := by decide +kernel
theorem dX8_in_3 : decode cX8_in 3 = .ok (.ifCond .lt 14, 3) := by decide +kernel
theorem dX8_in_6 : decode cX8_in 6 = .ok (.lload_n 0, 1) := by decide +kernel
theorem dX8_in_7 : decode cX8_in 7 = .ok (.lload 4, 2) := by decide +kernel
theorem dX8_in_9 : decode cX8_in 9 = .ok (.lcmp, 1) := by decide +kernel
theorem dX8_in_10 : decode cX8_in 10 = .ok (.ifCond .gt 7, 3) := by decide +kernel
theorem dX8_in_13 : decode cX8_in 13 = .ok (.iconst 1, 1) := by decide +kernel
theorem dX8_in_14 : decode cX8_in 14 = .ok (.goto 4, 3) := by decide +kernel
theorem dX8_in_17 : decode cX8_in 17 = .ok (.iconst 0, 1) := by decide +kernel
theorem dX8_in_18 : decode cX8_in 18 = .ok (.ireturn, 1) := by decide +kernel
theorem dX8_has_0 : decode cX8_has 0 = .ok (.iload_n 0, 1) := by decide +kernel
theorem dX8_has_1 : decode cX8_has 1 = .ok (.iload_n 1, 1) := by decide +kernel
theorem dX8_has_2 : decode cX8_has 2 = .ok (.ishr, 1) := by decide +kernel
theorem dX8_has_3 : decode cX8_has 3 = .ok (.iconst 1, 1) := by decide +kernel
theorem dX8_has_4 : decode cX8_has 4 = .ok (.iand, 1) := by decide +kernel
theorem dX8_has_5 : decode cX8_has 5 = .ok (.iconst 1, 1) := by decide +kernel
theorem dX8_has_6 : decode cX8_has 6 = .ok (.if_icmp .ne 7, 3) := by decide +kernel
theorem dX8_has_9 : decode cX8_has 9 = .ok (.iconst 1, 1) := by decide +kernel
theorem dX8_has_10 : decode cX8_has 10 = .ok (.goto 4, 3) := by decide +kernel
theorem dX8_has_13 : decode cX8_has 13 = .ok (.iconst 0, 1) := by decide +kernel
theorem dX8_has_14 : decode cX8_has 14 = .ok (.ireturn, 1) := by decide +kernel
theorem dX8_bits_0 : decode cX8_bits 0 = .ok (.iconst 0, 1) := by decide +kernel
theorem dX8_bits_1 : decode cX8_bits 1 = .ok (.istore_n 1, 1) := by decide +kernel
theorem dX8_bits_2 : decode cX8_bits 2 = .ok (.iconst 0, 1) := by decide +kernel
theorem dX8_bits_3 : decode cX8_bits 3 = .ok (.istore_n 2, 1) := by decide +kernel
theorem dX8_bits_4 : decode cX8_bits 4 = .ok (.iload_n 2, 1) := by decide +kernel
theorem dX8_bits_5 : decode cX8_bits 5 = .ok (.bipush 7, 2) := by decide +kernel
theorem dX8_bits_7 : decode cX8_bits 7 = .ok (.if_icmp .ge 17, 3) := by decide +kernel
theorem dX8_bits_10 : decode cX8_bits 10 = .ok (.iload_n 1, 1) := by decide +kernel
theorem dX8_bits_11 : decode cX8_bits 11 = .ok (.iload_n 0, 1) := by decide +kernel
theorem dX8_bits_12 : decode cX8_bits 12 = .ok (.iload_n 2, 1) := by decide +kernel
theorem dX8_bits_13 : decode cX8_bits 13 = .ok (.ishr, 1) := by decide +kernel
theorem dX8_bits_14 : decode cX8_bits 14 = .ok (.iconst 1, 1) := by decide +kernel
theorem dX8_bits_15 : decode cX8_bits 15 = .ok (.iand, 1) := by decide +kernel
theorem dX8_bits_16 : decode cX8_bits 16 = .ok (.iadd, 1) := by decide +kernel
theorem dX8_bits_17 : decode cX8_bits 17 = .ok (.istore_n 1, 1) := by decide +kernel
theorem dX8_bits_18 : decode cX8_bits 18 = .ok (.iinc 2 1, 3) := by decide +kernel
theorem dX8_bits_21 : decode cX8_bits 21 = .ok (.goto (-17), 3) := by decide +kernel
theorem dX8_bits_24 : decode cX8_bits 24 = .ok (.iload_n 1, 1) := by decide +kernel
theorem dX8_bits_25 : decode cX8_bits 25 = .ok (.ireturn, 1) := by decide +kernel
theorem dX8_isGate_0 : decode cX8_isGate 0 = .ok (.iload_n 1, 1) := by decide +kernel
theorem dX8_isGate_1 : decode cX8_isGate 1 = .ok (.i2l, 1) := by decide +kernel
theorem dX8_isGate_2 : decode cX8_isGate 2 = .ok (.lconst 0, 1) := by decide +kernel
theorem dX8_isGate_3 : decode cX8_isGate 3 = .ok (.aload_n 0, 1) := by decide +kernel
theorem dX8_isGate_4 : decode cX8_isGate 4 = .ok (.getfield 87, 3) := by decide +kernel
theorem dX8_isGate_7 : decode cX8_isGate 7 = .ok (.iconst 1, 1) := by decide +kernel
theorem dX8_isGate_8 : decode cX8_isGate 8 = .ok (.isub, 1) := by decide +kernel
theorem dX8_isGate_9 : decode cX8_isGate 9 = .ok (.i2l, 1) := by decide +kernel
theorem dX8_isGate_10 : decode cX8_isGate 10 = .ok (.invokestatic 90, 3) := by decide +kernel
theorem dX8_isGate_13 : decode cX8_isGate 13 = .ok (.ireturn, 1) := by decide +kernel
theorem dX8_isPerson_0 : decode cX8_isPerson 0 = .ok (.iload_n 1, 1) := by decide +kernel
theorem dX8_isPerson_1 : decode cX8_isPerson 1 = .ok (.i2l, 1) := by decide +kernel
theorem dX8_isPerson_2 : decode cX8_isPerson 2 = .ok (.lconst 0, 1) := by decide +kernel
theorem dX8_isPerson_3 : decode cX8_isPerson 3 = .ok (.aload_n 0, 1) := by decide +kernel
theorem dX8_isPerson_4 : decode cX8_isPerson 4 = .ok (.getfield 94, 3) := by decide +kernel
theorem dX8_isPerson_7 : decode cX8_isPerson 7 = .ok (.iconst 1, 1) := by decide +kernel
theorem dX8_isPerson_8 : decode cX8_isPerson 8 = .ok (.isub, 1) := by decide +kernel
theorem dX8_isPerson_9 : decode cX8_isPerson 9 = .ok (.i2l, 1) := by decide +kernel
theorem dX8_isPerson_10 : decode cX8_isPerson 10 = .ok (.invokestatic 90, 3) := by decide +kernel
theorem dX8_isPerson_13 : decode cX8_isPerson 13 = .ok (.ireturn, 1) := by decide +kernel
theorem dX8_isSet_0 : decode cX8_isSet 0 = .ok (.iload_n 1, 1) := by decide +kernel
theorem dX8_isSet_1 : decode cX8_isSet 1 = .ok (.i2l, 1) := by decide +kernel
theorem dX8_isSet_2 : decode cX8_isSet 2 = .ok (.lconst 0, 1) := by decide +kernel
theorem dX8_isSet_3 : decode cX8_isSet 3 = .ok (.iconst 1, 1) := by decide +kernel
theorem dX8_isSet_4 : decode cX8_isSet 4 = .ok (.aload_n 0, 1) := by decide +kernel
theorem dX8_isSet_5 : decode cX8_isSet 5 = .ok (.getfield 94, 3) := by decide +kernel
theorem dX8_isSet_8 : decode cX8_isSet 8 = .ok (.ishl, 1) := by decide +kernel
theorem dX8_isSet_9 : decode cX8_isSet 9 = .ok (.iconst 1, 1) := by decide +kernel
theorem dX8_isSet_10 : decode cX8_isSet 10 = .ok (.isub, 1) := by decide +kernel
theorem dX8_isSet_11 : decode cX8_isSet 11 = .ok (.i2l, 1) := by decide +kernel
theorem dX8_isSet_12 : decode cX8_isSet 12 = .ok (.invokestatic 90, 3) := by decide +kernel
theorem dX8_isSet_15 : decode cX8_isSet 15 = .ok (.ireturn, 1) := by decide +kernel
theorem dX8_feed_0 : decode cX8_feed 0 = .ok (.iload_n 1, 1) := by decide +kernel
theorem dX8_feed_1 : decode cX8_feed 1 = .ok (.i2l, 1) := by decide +kernel
theorem dX8_feed_2 : decode cX8_feed 2 = .ok (.lconst 0, 1) := by decide +kernel
theorem dX8_feed_3 : decode cX8_feed 3 = .ok (.ldc2_w 97, 3) := by decide +kernel
theorem dX8_feed_6 : decode cX8_feed 6 = .ok (.invokestatic 90, 3) := by decide +kernel
theorem dX8_feed_9 : decode cX8_feed 9 = .ok (.ifCond .ne 6, 3) := by decide +kernel
theorem dX8_feed_12 : decode cX8_feed 12 = .ok (.ldc 99, 2) := by decide +kernel
theorem dX8_feed_14 : decode cX8_feed 14 = .ok (.ireturn, 1) := by decide +kernel
theorem dX8_feed_15 : decode cX8_feed 15 = .ok (.aload_n 0, 1) := by decide +kernel
theorem dX8_feed_16 : decode cX8_feed 16 = .ok (.getfield 100, 3) := by decide +kernel
theorem dX8_feed_19 : decode cX8_feed 19 = .ok (.sipush 240, 3) := by decide +kernel
theorem dX8_feed_22 : decode cX8_feed 22 = .ok (.if_icmp .ne 6, 3) := by decide +kernel
theorem dX8_feed_25 : decode cX8_feed 25 = .ok (.ldc 103, 2) := by decide +kernel
theorem dX8_feed_27 : decode cX8_feed 27 = .ok (.ireturn, 1) := by decide +kernel
theorem dX8_feed_28 : decode cX8_feed 28 = .ok (.aload_n 0, 1) := by decide +kernel
theorem dX8_feed_29 : decode cX8_feed 29 = .ok (.getfield 25, 3) := by decide +kernel
theorem dX8_feed_32 : decode cX8_feed 32 = .ok (.aload_n 0, 1) := by decide +kernel
theorem dX8_feed_33 : decode cX8_feed 33 = .ok (.getfield 100, 3) := by decide +kernel
theorem dX8_feed_36 : decode cX8_feed 36 = .ok (.iload_n 1, 1) := by decide +kernel
theorem dX8_feed_37 : decode cX8_feed 37 = .ok (.iastore, 1) := by decide +kernel
theorem dX8_feed_38 : decode cX8_feed 38 = .ok (.aload_n 0, 1) := by decide +kernel
theorem dX8_feed_39 : decode cX8_feed 39 = .ok (.dup, 1) := by decide +kernel
theorem dX8_feed_40 : decode cX8_feed 40 = .ok (.getfield 100, 3) := by decide +kernel
theorem dX8_feed_43 : decode cX8_feed 43 = .ok (.iconst 1, 1) := by decide +kernel
theorem dX8_feed_44 : decode cX8_feed 44 = .ok (.iadd, 1) := by decide +kernel
theorem dX8_feed_45 : decode cX8_feed 45 = .ok (.putfield 100, 3) := by decide +kernel
theorem dX8_feed_48 : decode cX8_feed 48 = .ok (.aload_n 0, 1) := by decide +kernel
theorem dX8_feed_49 : decode cX8_feed 49 = .ok (.getfield 100, 3) := by decide +kernel
theorem dX8_feed_52 : decode cX8_feed 52 = .ok (.ireturn, 1) := by decide +kernel
theorem dX8_here_0 : decode cX8_here 0 = .ok (.aload_n 0, 1) := by decide +kernel
theorem dX8_here_1 : decode cX8_here 1 = .ok (.getfield 104, 3) := by decide +kernel
theorem dX8_here_4 : decode cX8_here 4 = .ok (.aload_n 0, 1) := by decide +kernel
theorem dX8_here_5 : decode cX8_here 5 = .ok (.getfield 100, 3) := by decide +kernel
theorem dX8_here_8 : decode cX8_here 8 = .ok (.if_icmp .ge 30, 3) := by decide +kernel
theorem dX8_here_11 : decode cX8_here 11 = .ok (.aload_n 0, 1) := by decide +kernel
theorem dX8_here_12 : decode cX8_here 12 = .ok (.getfield 25, 3) := by decide +kernel
theorem dX8_here_15 : decode cX8_here 15 = .ok (.aload_n 0, 1) := by decide +kernel
theorem dX8_here_16 : decode cX8_here 16 = .ok (.getfield 104, 3) := by decide +kernel
theorem dX8_here_19 : decode cX8_here 19 = .ok (.iaload, 1) := by decide +kernel
theorem dX8_here_20 : decode cX8_here 20 = .ok (.bipush 32, 2) := by decide +kernel
theorem dX8_here_22 : decode cX8_here 22 = .ok (.if_icmp .ne 16, 3) := by decide +kernel
theorem dX8_here_25 : decode cX8_here 25 = .ok (.aload_n 0, 1) := by decide +kernel
theorem dX8_here_26 : decode cX8_here 26 = .ok (.dup, 1) := by decide +kernel
theorem dX8_here_27 : decode cX8_here 27 = .ok (.getfield 104, 3) := by decide +kernel
theorem dX8_here_30 : decode cX8_here 30 = .ok (.iconst 1, 1) := by decide +kernel
theorem dX8_here_31 : decode cX8_here 31 = .ok (.iadd, 1) := by decide +kernel
theorem dX8_here_32 : decode cX8_here 32 = .ok (.putfield 104, 3) := by decide +kernel
theorem dX8_here_35 : decode cX8_here 35 = .ok (.goto (-35), 3) := by decide +kernel
theorem dX8_here_38 : decode cX8_here 38 = .ok (.aload_n 0, 1) := by decide +kernel
theorem dX8_here_39 : decode cX8_here 39 = .ok (.getfield 104, 3) := by decide +kernel
theorem dX8_here_42 : decode cX8_here 42 = .ok (.aload_n 0, 1) := by decide +kernel
theorem dX8_here_43 : decode cX8_here 43 = .ok (.getfield 100, 3) := by decide +kernel
theorem dX8_here_46 : decode cX8_here 46 = .ok (.if_icmp .ge 15, 3) := by decide +kernel
theorem dX8_here_49 : decode cX8_here 49 = .ok (.aload_n 0, 1) := by decide +kernel
theorem dX8_here_50 : decode cX8_here 50 = .ok (.getfield 25, 3) := by decide +kernel
theorem dX8_here_53 : decode cX8_here 53 = .ok (.aload_n 0, 1) := by decide +kernel
theorem dX8_here_54 : decode cX8_here 54 = .ok (.getfield 104, 3) := by decide +kernel
theorem dX8_here_57 : decode cX8_here 57 = .ok (.iaload, 1) := by decide +kernel
theorem dX8_here_58 : decode cX8_here 58 = .ok (.goto 4, 3) := by decide +kernel
theorem dX8_here_61 : decode cX8_here 61 = .ok (.iconst (-1), 1) := by decide +kernel
theorem dX8_here_62 : decode cX8_here 62 = .ok (.ireturn, 1) := by decide +kernel
theorem dX8_fails_0 : decode cX8_fails 0 = .ok (.aload_n 0, 1) := by decide +kernel
theorem dX8_fails_1 : decode cX8_fails 1 = .ok (.iload_n 2, 1) := by decide +kernel
theorem dX8_fails_2 : decode cX8_fails 2 = .ok (.putfield 28, 3) := by decide +kernel
theorem dX8_fails_5 : decode cX8_fails 5 = .ok (.iload_n 1, 1) := by decide +kernel
theorem dX8_fails_6 : decode cX8_fails 6 = .ok (.ireturn, 1) := by decide +kernel
theorem dX8_takeNumber_0 : decode cX8_takeNumber 0 = .ok (.aload_n 0, 1) := by decide +kernel
theorem dX8_takeNumber_1 : decode cX8_takeNumber 1 = .ok (.invokevirtual 107, 3) := by decide +kernel
theorem dX8_takeNumber_4 : decode cX8_takeNumber 4 = .ok (.istore_n 3, 1) := by decide +kernel
theorem dX8_takeNumber_5 : decode cX8_takeNumber 5 = .ok (.iload_n 3, 1) := by decide +kernel
theorem dX8_takeNumber_6 : decode cX8_takeNumber 6 = .ok (.i2l, 1) := by decide +kernel
theorem dX8_takeNumber_7 : decode cX8_takeNumber 7 = .ok (.ldc2_w 111, 3) := by decide +kernel
theorem dX8_takeNumber_10 : decode cX8_takeNumber 10 = .ok (.ldc2_w 113, 3) := by decide +kernel
theorem dX8_takeNumber_13 : decode cX8_takeNumber 13 = .ok (.invokestatic 90, 3) := by decide +kernel
theorem dX8_takeNumber_16 : decode cX8_takeNumber 16 = .ok (.ifCond .ne 13, 3) := by decide +kernel
theorem dX8_takeNumber_19 : decode cX8_takeNumber 19 = .ok (.aload_n 0, 1) := by decide +kernel
theorem dX8_takeNumber_20 : decode cX8_takeNumber 20 = .ok (.iconst 1, 1) := by decide +kernel
theorem dX8_takeNumber_21 : decode cX8_takeNumber 21 = .ok (.aload_n 0, 1) := by decide +kernel
theorem dX8_takeNumber_22 : decode cX8_takeNumber 22 = .ok (.getfield 104, 3) := by decide +kernel
theorem dX8_takeNumber_25 : decode cX8_takeNumber 25 = .ok (.invokevirtual 115, 3) := by decide +kernel
theorem dX8_takeNumber_28 : decode cX8_takeNumber 28 = .ok (.ireturn, 1) := by decide +kernel
theorem dX8_takeNumber_29 : decode cX8_takeNumber 29 = .ok (.aload_n 0, 1) := by decide +kernel
theorem dX8_takeNumber_30 : decode cX8_takeNumber 30 = .ok (.aload_n 0, 1) := by decide +kernel
theorem dX8_takeNumber_31 : decode cX8_takeNumber 31 = .ok (.getfield 104, 3) := by decide +kernel
theorem dX8_takeNumber_34 : decode cX8_takeNumber 34 = .ok (.putfield 119, 3) := by decide +kernel
theorem dX8_takeNumber_37 : decode cX8_takeNumber 37 = .ok (.aload_n 0, 1) := by decide +kernel
theorem dX8_takeNumber_38 : decode cX8_takeNumber 38 = .ok (.iconst 0, 1) := by decide +kernel
theorem dX8_takeNumber_39 : decode cX8_takeNumber 39 = .ok (.putfield 122, 3) := by decide +kernel
theorem dX8_takeNumber_42 : decode cX8_takeNumber 42 = .ok (.aload_n 0, 1) := by decide +kernel
theorem dX8_takeNumber_43 : decode cX8_takeNumber 43 = .ok (.getfield 104, 3) := by decide +kernel
theorem dX8_takeNumber_46 : decode cX8_takeNumber 46 = .ok (.aload_n 0, 1) := by decide +kernel
theorem dX8_takeNumber_47 : decode cX8_takeNumber 47 = .ok (.getfield 100, 3) := by decide +kernel
theorem dX8_takeNumber_50 : decode cX8_takeNumber 50 = .ok (.if_icmp .ge 79, 3) := by decide +kernel
theorem dX8_takeNumber_53 : decode cX8_takeNumber 53 = .ok (.aload_n 0, 1) := by decide +kernel
theorem dX8_takeNumber_54 : decode cX8_takeNumber 54 = .ok (.getfield 25, 3) := by decide +kernel
theorem dX8_takeNumber_57 : decode cX8_takeNumber 57 = .ok (.aload_n 0, 1) := by decide +kernel
theorem dX8_takeNumber_58 : decode cX8_takeNumber 58 = .ok (.getfield 104, 3) := by decide +kernel
theorem dX8_takeNumber_61 : decode cX8_takeNumber 61 = .ok (.iaload, 1) := by decide +kernel
theorem dX8_takeNumber_62 : decode cX8_takeNumber 62 = .ok (.i2l, 1) := by decide +kernel
theorem dX8_takeNumber_63 : decode cX8_takeNumber 63 = .ok (.ldc2_w 111, 3) := by decide +kernel
theorem dX8_takeNumber_66 : decode cX8_takeNumber 66 = .ok (.ldc2_w 113, 3) := by decide +kernel
theorem dX8_takeNumber_69 : decode cX8_takeNumber 69 = .ok (.invokestatic 90, 3) := by decide +kernel
theorem dX8_takeNumber_72 : decode cX8_takeNumber 72 = .ok (.ifCond .eq 57, 3) := by decide +kernel
theorem dX8_takeNumber_75 : decode cX8_takeNumber 75 = .ok (.aload_n 0, 1) := by decide +kernel
theorem dX8_takeNumber_76 : decode cX8_takeNumber 76 = .ok (.aload_n 0, 1) := by decide +kernel
theorem dX8_takeNumber_77 : decode cX8_takeNumber 77 = .ok (.getfield 122, 3) := by decide +kernel
theorem dX8_takeNumber_80 : decode cX8_takeNumber 80 = .ok (.sipush 10000, 3) := by decide +kernel
theorem dX8_takeNumber_83 : decode cX8_takeNumber 83 = .ok (.if_icmp .le 10, 3) := by decide +kernel
theorem dX8_takeNumber_86 : decode cX8_takeNumber 86 = .ok (.aload_n 0, 1) := by decide +kernel
theorem dX8_takeNumber_87 : decode cX8_takeNumber 87 = .ok (.getfield 122, 3) := by decide +kernel
theorem dX8_takeNumber_90 : decode cX8_takeNumber 90 = .ok (.goto 23, 3) := by decide +kernel
theorem dX8_takeNumber_93 : decode cX8_takeNumber 93 = .ok (.bipush 10, 2) := by decide +kernel
theorem dX8_takeNumber_95 : decode cX8_takeNumber 95 = .ok (.aload_n 0, 1) := by decide +kernel
theorem dX8_takeNumber_96 : decode cX8_takeNumber 96 = .ok (.getfield 122, 3) := by decide +kernel
theorem dX8_takeNumber_99 : decode cX8_takeNumber 99 = .ok (.imul, 1) := by decide +kernel
theorem dX8_takeNumber_100 : decode cX8_takeNumber 100 = .ok (.aload_n 0, 1) := by decide +kernel
theorem dX8_takeNumber_101 : decode cX8_takeNumber 101 = .ok (.getfield 25, 3) := by decide +kernel
theorem dX8_takeNumber_104 : decode cX8_takeNumber 104 = .ok (.aload_n 0, 1) := by decide +kernel
theorem dX8_takeNumber_105 : decode cX8_takeNumber 105 = .ok (.getfield 104, 3) := by decide +kernel
theorem dX8_takeNumber_108 : decode cX8_takeNumber 108 = .ok (.iaload, 1) := by decide +kernel
theorem dX8_takeNumber_109 : decode cX8_takeNumber 109 = .ok (.iadd, 1) := by decide +kernel
theorem dX8_takeNumber_110 : decode cX8_takeNumber 110 = .ok (.bipush 48, 2) := by decide +kernel
theorem dX8_takeNumber_112 : decode cX8_takeNumber 112 = .ok (.isub, 1) := by decide +kernel
theorem dX8_takeNumber_113 : decode cX8_takeNumber 113 = .ok (.putfield 122, 3) := by decide +kernel
theorem dX8_takeNumber_116 : decode cX8_takeNumber 116 = .ok (.aload_n 0, 1) := by decide +kernel
theorem dX8_takeNumber_117 : decode cX8_takeNumber 117 = .ok (.dup, 1) := by decide +kernel
theorem dX8_takeNumber_118 : decode cX8_takeNumber 118 = .ok (.getfield 104, 3) := by decide +kernel
theorem dX8_takeNumber_121 : decode cX8_takeNumber 121 = .ok (.iconst 1, 1) := by decide +kernel
theorem dX8_takeNumber_122 : decode cX8_takeNumber 122 = .ok (.iadd, 1) := by decide +kernel
theorem dX8_takeNumber_123 : decode cX8_takeNumber 123 = .ok (.putfield 104, 3) := by decide +kernel
theorem dX8_takeNumber_126 : decode cX8_takeNumber 126 = .ok (.goto (-84), 3) := by decide +kernel
theorem dX8_takeNumber_129 : decode cX8_takeNumber 129 = .ok (.aload_n 0, 1) := by decide +kernel
theorem dX8_takeNumber_130 : decode cX8_takeNumber 130 = .ok (.getfield 104, 3) := by decide +kernel
theorem dX8_takeNumber_133 : decode cX8_takeNumber 133 = .ok (.aload_n 0, 1) := by decide +kernel
theorem dX8_takeNumber_134 : decode cX8_takeNumber 134 = .ok (.getfield 119, 3) := by decide +kernel
theorem dX8_takeNumber_137 : decode cX8_takeNumber 137 = .ok (.isub, 1) := by decide +kernel
theorem dX8_takeNumber_138 : decode cX8_takeNumber 138 = .ok (.iconst 3, 1) := by decide +kernel
theorem dX8_takeNumber_139 : decode cX8_takeNumber 139 = .ok (.if_icmp .gt 18, 3) := by decide +kernel
theorem dX8_takeNumber_142 : decode cX8_takeNumber 142 = .ok (.aload_n 0, 1) := by decide +kernel
theorem dX8_takeNumber_143 : decode cX8_takeNumber 143 = .ok (.getfield 122, 3) := by decide +kernel
theorem dX8_takeNumber_146 : decode cX8_takeNumber 146 = .ok (.i2l, 1) := by decide +kernel
theorem dX8_takeNumber_147 : decode cX8_takeNumber 147 = .ok (.iload_n 1, 1) := by decide +kernel
theorem dX8_takeNumber_148 : decode cX8_takeNumber 148 = .ok (.i2l, 1) := by decide +kernel
theorem dX8_takeNumber_149 : decode cX8_takeNumber 149 = .ok (.iload_n 2, 1) := by decide +kernel
theorem dX8_takeNumber_150 : decode cX8_takeNumber 150 = .ok (.i2l, 1) := by decide +kernel
theorem dX8_takeNumber_151 : decode cX8_takeNumber 151 = .ok (.invokestatic 90, 3) := by decide +kernel
theorem dX8_takeNumber_154 : decode cX8_takeNumber 154 = .ok (.ifCond .ne 15, 3) := by decide +kernel
theorem dX8_takeNumber_157 : decode cX8_takeNumber 157 = .ok (.aload_n 0, 1) := by decide +kernel
theorem dX8_takeNumber_158 : decode cX8_takeNumber 158 = .ok (.iconst 2, 1) := by decide +kernel
theorem dX8_takeNumber_159 : decode cX8_takeNumber 159 = .ok (.aload_n 0, 1) := by decide +kernel
theorem dX8_takeNumber_160 : decode cX8_takeNumber 160 = .ok (.getfield 119, 3) := by decide +kernel
theorem dX8_takeNumber_163 : decode cX8_takeNumber 163 = .ok (.invokevirtual 115, 3) := by decide +kernel
theorem dX8_takeNumber_166 : decode cX8_takeNumber 166 = .ok (.goto 4, 3) := by decide +kernel
theorem dX8_takeNumber_169 : decode cX8_takeNumber 169 = .ok (.iconst 0, 1) := by decide +kernel
theorem dX8_takeNumber_170 : decode cX8_takeNumber 170 = .ok (.ireturn, 1) := by decide +kernel
theorem dX8_into_0 : decode cX8_into 0 = .ok (.aload_n 0, 1) := by decide +kernel
theorem dX8_into_1 : decode cX8_into 1 = .ok (.iload_n 3, 1) := by decide +kernel
theorem dX8_into_2 : decode cX8_into 2 = .ok (.iload 4, 2) := by decide +kernel
theorem dX8_into_4 : decode cX8_into 4 = .ok (.invokevirtual 125, 3) := by decide +kernel
theorem dX8_into_7 : decode cX8_into 7 = .ok (.istore 5, 2) := by decide +kernel
theorem dX8_into_9 : decode cX8_into 9 = .ok (.aload_n 1, 1) := by decide +kernel
theorem dX8_into_10 : decode cX8_into 10 = .ok (.iload_n 2, 1) := by decide +kernel
theorem dX8_into_11 : decode cX8_into 11 = .ok (.aload_n 0, 1) := by decide +kernel
theorem dX8_into_12 : decode cX8_into 12 = .ok (.getfield 122, 3) := by decide +kernel
theorem dX8_into_15 : decode cX8_into 15 = .ok (.iastore, 1) := by decide +kernel
theorem dX8_into_16 : decode cX8_into 16 = .ok (.iload 5, 2) := by decide +kernel
theorem dX8_into_18 : decode cX8_into 18 = .ok (.ireturn, 1) := by decide +kernel
theorem dX8_takeGate_0 : decode cX8_takeGate 0 = .ok (.aload_n 0, 1) := by decide +kernel
theorem dX8_takeGate_1 : decode cX8_takeGate 1 = .ok (.getfield 128, 3) := by decide +kernel
theorem dX8_takeGate_4 : decode cX8_takeGate 4 = .ok (.istore_n 1, 1) := by decide +kernel
theorem dX8_takeGate_5 : decode cX8_takeGate 5 = .ok (.aload_n 0, 1) := by decide +kernel
theorem dX8_takeGate_6 : decode cX8_takeGate 6 = .ok (.dup, 1) := by decide +kernel
theorem dX8_takeGate_7 : decode cX8_takeGate 7 = .ok (.getfield 128, 3) := by decide +kernel
theorem dX8_takeGate_10 : decode cX8_takeGate 10 = .ok (.iconst 1, 1) := by decide +kernel
theorem dX8_takeGate_11 : decode cX8_takeGate 11 = .ok (.iadd, 1) := by decide +kernel
theorem dX8_takeGate_12 : decode cX8_takeGate 12 = .ok (.putfield 128, 3) := by decide +kernel
theorem dX8_takeGate_15 : decode cX8_takeGate 15 = .ok (.aload_n 0, 1) := by decide +kernel
theorem dX8_takeGate_16 : decode cX8_takeGate 16 = .ok (.aload_n 0, 1) := by decide +kernel
theorem dX8_takeGate_17 : decode cX8_takeGate 17 = .ok (.getfield 32, 3) := by decide +kernel
theorem dX8_takeGate_20 : decode cX8_takeGate 20 = .ok (.iload_n 1, 1) := by decide +kernel
theorem dX8_takeGate_21 : decode cX8_takeGate 21 = .ok (.iconst 1, 1) := by decide +kernel
theorem dX8_takeGate_22 : decode cX8_takeGate 22 = .ok (.bipush 99, 2) := by decide +kernel
theorem dX8_takeGate_24 : decode cX8_takeGate 24 = .ok (.invokevirtual 131, 3) := by decide +kernel
theorem dX8_takeGate_27 : decode cX8_takeGate 27 = .ok (.ireturn, 1) := by decide +kernel
theorem dX8_takePerson_0 : decode cX8_takePerson 0 = .ok (.aload_n 0, 1) := by decide +kernel
theorem dX8_takePerson_1 : decode cX8_takePerson 1 = .ok (.getfield 135, 3) := by decide +kernel
theorem dX8_takePerson_4 : decode cX8_takePerson 4 = .ok (.istore_n 1, 1) := by decide +kernel
theorem dX8_takePerson_5 : decode cX8_takePerson 5 = .ok (.aload_n 0, 1) := by decide +kernel
theorem dX8_takePerson_6 : decode cX8_takePerson 6 = .ok (.dup, 1) := by decide +kernel
theorem dX8_takePerson_7 : decode cX8_takePerson 7 = .ok (.getfield 135, 3) := by decide +kernel
theorem dX8_takePerson_10 : decode cX8_takePerson 10 = .ok (.iconst 1, 1) := by decide +kernel
theorem dX8_takePerson_11 : decode cX8_takePerson 11 = .ok (.iadd, 1) := by decide +kernel
theorem dX8_takePerson_12 : decode cX8_takePerson 12 = .ok (.putfield 135, 3) := by decide +kernel
theorem dX8_takePerson_15 : decode cX8_takePerson 15 = .ok (.aload_n 0, 1) := by decide +kernel
theorem dX8_takePerson_16 : decode cX8_takePerson 16 = .ok (.aload_n 0, 1) := by decide +kernel
theorem dX8_takePerson_17 : decode cX8_takePerson 17 = .ok (.getfield 35, 3) := by decide +kernel
theorem dX8_takePerson_20 : decode cX8_takePerson 20 = .ok (.iload_n 1, 1) := by decide +kernel
theorem dX8_takePerson_21 : decode cX8_takePerson 21 = .ok (.iconst 0, 1) := by decide +kernel
theorem dX8_takePerson_22 : decode cX8_takePerson 22 = .ok (.iconst 1, 1) := by decide +kernel
theorem dX8_takePerson_23 : decode cX8_takePerson 23 = .ok (.invokevirtual 131, 3) := by decide +kernel
theorem dX8_takePerson_26 : decode cX8_takePerson 26 = .ok (.istore_n 2, 1) := by decide +kernel
theorem dX8_takePerson_27 : decode cX8_takePerson 27 = .ok (.iload_n 2, 1) := by decide +kernel
theorem dX8_takePerson_28 : decode cX8_takePerson 28 = .ok (.ifCond .le 7, 3) := by decide +kernel
theorem dX8_takePerson_31 : decode cX8_takePerson 31 = .ok (.iload_n 2, 1) := by decide +kernel
theorem dX8_takePerson_32 : decode cX8_takePerson 32 = .ok (.goto 14, 3) := by decide +kernel
theorem dX8_takePerson_35 : decode cX8_takePerson 35 = .ok (.aload_n 0, 1) := by decide +kernel
theorem dX8_takePerson_36 : decode cX8_takePerson 36 = .ok (.aload_n 0, 1) := by decide +kernel
theorem dX8_takePerson_37 : decode cX8_takePerson 37 = .ok (.getfield 38, 3) := by decide +kernel
theorem dX8_takePerson_40 : decode cX8_takePerson 40 = .ok (.iload_n 1, 1) := by decide +kernel
theorem dX8_takePerson_41 : decode cX8_takePerson 41 = .ok (.iconst 0, 1) := by decide +kernel
theorem dX8_takePerson_42 : decode cX8_takePerson 42 = .ok (.iconst 1, 1) := by decide +kernel
theorem dX8_takePerson_43 : decode cX8_takePerson 43 = .ok (.invokevirtual 131, 3) := by decide +kernel
theorem dX8_takePerson_46 : decode cX8_takePerson 46 = .ok (.ireturn, 1) := by decide +kernel
theorem dX8_takeLikes_0 : decode cX8_takeLikes 0 = .ok (.aload_n 0, 1) := by decide +kernel
theorem dX8_takeLikes_1 : decode cX8_takeLikes 1 = .ok (.iconst 0, 1) := by decide +kernel
theorem dX8_takeLikes_2 : decode cX8_takeLikes 2 = .ok (.aload_n 0, 1) := by decide +kernel
theorem dX8_takeLikes_3 : decode cX8_takeLikes 3 = .ok (.getfield 135, 3) := by decide +kernel
theorem dX8_takeLikes_6 : decode cX8_takeLikes 6 = .ok (.iconst 1, 1) := by decide +kernel
theorem dX8_takeLikes_7 : decode cX8_takeLikes 7 = .ok (.isub, 1) := by decide +kernel
theorem dX8_takeLikes_8 : decode cX8_takeLikes 8 = .ok (.invokevirtual 125, 3) := by decide +kernel
theorem dX8_takeLikes_11 : decode cX8_takeLikes 11 = .ok (.istore_n 1, 1) := by decide +kernel
theorem dX8_takeLikes_12 : decode cX8_takeLikes 12 = .ok (.aload_n 0, 1) := by decide +kernel
theorem dX8_takeLikes_13 : decode cX8_takeLikes 13 = .ok (.getfield 122, 3) := by decide +kernel
theorem dX8_takeLikes_16 : decode cX8_takeLikes 16 = .ok (.istore_n 2, 1) := by decide +kernel
theorem dX8_takeLikes_17 : decode cX8_takeLikes 17 = .ok (.iload_n 1, 1) := by decide +kernel
theorem dX8_takeLikes_18 : decode cX8_takeLikes 18 = .ok (.ifCond .le 7, 3) := by decide +kernel
theorem dX8_takeLikes_21 : decode cX8_takeLikes 21 = .ok (.iload_n 1, 1) := by decide +kernel
theorem dX8_takeLikes_22 : decode cX8_takeLikes 22 = .ok (.goto 14, 3) := by decide +kernel
theorem dX8_takeLikes_25 : decode cX8_takeLikes 25 = .ok (.aload_n 0, 1) := by decide +kernel
theorem dX8_takeLikes_26 : decode cX8_takeLikes 26 = .ok (.iconst 0, 1) := by decide +kernel
theorem dX8_takeLikes_27 : decode cX8_takeLikes 27 = .ok (.aload_n 0, 1) := by decide +kernel
theorem dX8_takeLikes_28 : decode cX8_takeLikes 28 = .ok (.getfield 135, 3) := by decide +kernel
theorem dX8_takeLikes_31 : decode cX8_takeLikes 31 = .ok (.iconst 1, 1) := by decide +kernel
theorem dX8_takeLikes_32 : decode cX8_takeLikes 32 = .ok (.isub, 1) := by decide +kernel
theorem dX8_takeLikes_33 : decode cX8_takeLikes 33 = .ok (.invokevirtual 125, 3) := by decide +kernel
theorem dX8_takeLikes_36 : decode cX8_takeLikes 36 = .ok (.istore_n 1, 1) := by decide +kernel
theorem dX8_takeLikes_37 : decode cX8_takeLikes 37 = .ok (.iload_n 1, 1) := by decide +kernel
theorem dX8_takeLikes_38 : decode cX8_takeLikes 38 = .ok (.ifCond .le 5, 3) := by decide +kernel
theorem dX8_takeLikes_41 : decode cX8_takeLikes 41 = .ok (.iload_n 1, 1) := by decide +kernel
theorem dX8_takeLikes_42 : decode cX8_takeLikes 42 = .ok (.ireturn, 1) := by decide +kernel
theorem dX8_takeLikes_43 : decode cX8_takeLikes 43 = .ok (.aload_n 0, 1) := by decide +kernel
theorem dX8_takeLikes_44 : decode cX8_takeLikes 44 = .ok (.getfield 122, 3) := by decide +kernel
theorem dX8_takeLikes_47 : decode cX8_takeLikes 47 = .ok (.istore_n 3, 1) := by decide +kernel
theorem dX8_takeLikes_48 : decode cX8_takeLikes 48 = .ok (.iload_n 2, 1) := by decide +kernel
theorem dX8_takeLikes_49 : decode cX8_takeLikes 49 = .ok (.iload_n 3, 1) := by decide +kernel
theorem dX8_takeLikes_50 : decode cX8_takeLikes 50 = .ok (.if_icmp .eq 17, 3) := by decide +kernel
theorem dX8_takeLikes_53 : decode cX8_takeLikes 53 = .ok (.aload_n 0, 1) := by decide +kernel
theorem dX8_takeLikes_54 : decode cX8_takeLikes 54 = .ok (.getfield 41, 3) := by decide +kernel
theorem dX8_takeLikes_57 : decode cX8_takeLikes 57 = .ok (.bipush 7, 2) := by decide +kernel
theorem dX8_takeLikes_59 : decode cX8_takeLikes 59 = .ok (.iload_n 2, 1) := by decide +kernel
theorem dX8_takeLikes_60 : decode cX8_takeLikes 60 = .ok (.imul, 1) := by decide +kernel
theorem dX8_takeLikes_61 : decode cX8_takeLikes 61 = .ok (.iload_n 3, 1) := by decide +kernel
theorem dX8_takeLikes_62 : decode cX8_takeLikes 62 = .ok (.iadd, 1) := by decide +kernel
theorem dX8_takeLikes_63 : decode cX8_takeLikes 63 = .ok (.iaload, 1) := by decide +kernel
theorem dX8_takeLikes_64 : decode cX8_takeLikes 64 = .ok (.ifCond .lt 13, 3) := by decide +kernel
theorem dX8_takeLikes_67 : decode cX8_takeLikes 67 = .ok (.aload_n 0, 1) := by decide +kernel
theorem dX8_takeLikes_68 : decode cX8_takeLikes 68 = .ok (.iconst 4, 1) := by decide +kernel
theorem dX8_takeLikes_69 : decode cX8_takeLikes 69 = .ok (.aload_n 0, 1) := by decide +kernel
theorem dX8_takeLikes_70 : decode cX8_takeLikes 70 = .ok (.getfield 119, 3) := by decide +kernel
theorem dX8_takeLikes_73 : decode cX8_takeLikes 73 = .ok (.invokevirtual 115, 3) := by decide +kernel
theorem dX8_takeLikes_76 : decode cX8_takeLikes 76 = .ok (.ireturn, 1) := by decide +kernel
theorem dX8_takeLikes_77 : decode cX8_takeLikes 77 = .ok (.aload_n 0, 1) := by decide +kernel
theorem dX8_takeLikes_78 : decode cX8_takeLikes 78 = .ok (.aload_n 0, 1) := by decide +kernel
theorem dX8_takeLikes_79 : decode cX8_takeLikes 79 = .ok (.getfield 41, 3) := by decide +kernel
theorem dX8_takeLikes_82 : decode cX8_takeLikes 82 = .ok (.bipush 7, 2) := by decide +kernel
theorem dX8_takeLikes_84 : decode cX8_takeLikes 84 = .ok (.iload_n 2, 1) := by decide +kernel
theorem dX8_takeLikes_85 : decode cX8_takeLikes 85 = .ok (.imul, 1) := by decide +kernel
theorem dX8_takeLikes_86 : decode cX8_takeLikes 86 = .ok (.iload_n 3, 1) := by decide +kernel
theorem dX8_takeLikes_87 : decode cX8_takeLikes 87 = .ok (.iadd, 1) := by decide +kernel
theorem dX8_takeLikes_88 : decode cX8_takeLikes 88 = .ok (.iconst 0, 1) := by decide +kernel
theorem dX8_takeLikes_89 : decode cX8_takeLikes 89 = .ok (.bipush 9, 2) := by decide +kernel
theorem dX8_takeLikes_91 : decode cX8_takeLikes 91 = .ok (.invokevirtual 131, 3) := by decide +kernel
theorem dX8_takeLikes_94 : decode cX8_takeLikes 94 = .ok (.ireturn, 1) := by decide +kernel
theorem dX8_takeClause_0 : decode cX8_takeClause 0 = .ok (.aload_n 0, 1) := by decide +kernel
theorem dX8_takeClause_1 : decode cX8_takeClause 1 = .ok (.invokevirtual 107, 3) := by decide +kernel
theorem dX8_takeClause_4 : decode cX8_takeClause 4 = .ok (.istore_n 1, 1) := by decide +kernel
theorem dX8_takeClause_5 : decode cX8_takeClause 5 = .ok (.iload_n 1, 1) := by decide +kernel
theorem dX8_takeClause_6 : decode cX8_takeClause 6 = .ok (.bipush 103, 2) := by decide +kernel
theorem dX8_takeClause_8 : decode cX8_takeClause 8 = .ok (.if_icmp .ne 7, 3) := by decide +kernel
theorem dX8_takeClause_11 : decode cX8_takeClause 11 = .ok (.iconst 0, 1) := by decide +kernel
theorem dX8_takeClause_12 : decode cX8_takeClause 12 = .ok (.goto 24, 3) := by decide +kernel
theorem dX8_takeClause_15 : decode cX8_takeClause 15 = .ok (.iload_n 1, 1) := by decide +kernel
theorem dX8_takeClause_16 : decode cX8_takeClause 16 = .ok (.bipush 112, 2) := by decide +kernel
theorem dX8_takeClause_18 : decode cX8_takeClause 18 = .ok (.if_icmp .ne 7, 3) := by decide +kernel
theorem dX8_takeClause_21 : decode cX8_takeClause 21 = .ok (.iconst 1, 1) := by decide +kernel
theorem dX8_takeClause_22 : decode cX8_takeClause 22 = .ok (.goto 14, 3) := by decide +kernel
theorem dX8_takeClause_25 : decode cX8_takeClause 25 = .ok (.iload_n 1, 1) := by decide +kernel
theorem dX8_takeClause_26 : decode cX8_takeClause 26 = .ok (.bipush 108, 2) := by decide +kernel
theorem dX8_takeClause_28 : decode cX8_takeClause 28 = .ok (.if_icmp .ne 7, 3) := by decide +kernel
theorem dX8_takeClause_31 : decode cX8_takeClause 31 = .ok (.iconst 2, 1) := by decide +kernel
theorem dX8_takeClause_32 : decode cX8_takeClause 32 = .ok (.goto 4, 3) := by decide +kernel
theorem dX8_takeClause_35 : decode cX8_takeClause 35 = .ok (.iconst (-1), 1) := by decide +kernel
theorem dX8_takeClause_36 : decode cX8_takeClause 36 = .ok (.istore_n 2, 1) := by decide +kernel
theorem dX8_takeClause_37 : decode cX8_takeClause 37 = .ok (.iload_n 2, 1) := by decide +kernel
theorem dX8_takeClause_38 : decode cX8_takeClause 38 = .ok (.ifCond .ge 13, 3) := by decide +kernel
theorem dX8_takeClause_41 : decode cX8_takeClause 41 = .ok (.aload_n 0, 1) := by decide +kernel
theorem dX8_takeClause_42 : decode cX8_takeClause 42 = .ok (.iconst 1, 1) := by decide +kernel
theorem dX8_takeClause_43 : decode cX8_takeClause 43 = .ok (.aload_n 0, 1) := by decide +kernel
theorem dX8_takeClause_44 : decode cX8_takeClause 44 = .ok (.getfield 104, 3) := by decide +kernel
theorem dX8_takeClause_47 : decode cX8_takeClause 47 = .ok (.invokevirtual 115, 3) := by decide +kernel
theorem dX8_takeClause_50 : decode cX8_takeClause 50 = .ok (.ireturn, 1) := by decide +kernel
theorem dX8_takeClause_51 : decode cX8_takeClause 51 = .ok (.iload_n 2, 1) := by decide +kernel
theorem dX8_takeClause_52 : decode cX8_takeClause 52 = .ok (.ifCond .ne 11, 3) := by decide +kernel
theorem dX8_takeClause_55 : decode cX8_takeClause 55 = .ok (.aload_n 0, 1) := by decide +kernel
theorem dX8_takeClause_56 : decode cX8_takeClause 56 = .ok (.getfield 128, 3) := by decide +kernel
theorem dX8_takeClause_59 : decode cX8_takeClause 59 = .ok (.iconst 5, 1) := by decide +kernel
theorem dX8_takeClause_60 : decode cX8_takeClause 60 = .ok (.if_icmp .eq 17, 3) := by decide +kernel
theorem dX8_takeClause_63 : decode cX8_takeClause 63 = .ok (.iload_n 2, 1) := by decide +kernel
theorem dX8_takeClause_64 : decode cX8_takeClause 64 = .ok (.iconst 1, 1) := by decide +kernel
theorem dX8_takeClause_65 : decode cX8_takeClause 65 = .ok (.if_icmp .ne 22, 3) := by decide +kernel
theorem dX8_takeClause_68 : decode cX8_takeClause 68 = .ok (.aload_n 0, 1) := by decide +kernel
theorem dX8_takeClause_69 : decode cX8_takeClause 69 = .ok (.getfield 135, 3) := by decide +kernel
theorem dX8_takeClause_72 : decode cX8_takeClause 72 = .ok (.bipush 7, 2) := by decide +kernel
theorem dX8_takeClause_74 : decode cX8_takeClause 74 = .ok (.if_icmp .ne 13, 3) := by decide +kernel
theorem dX8_takeClause_77 : decode cX8_takeClause 77 = .ok (.aload_n 0, 1) := by decide +kernel
theorem dX8_takeClause_78 : decode cX8_takeClause 78 = .ok (.iconst 3, 1) := by decide +kernel
theorem dX8_takeClause_79 : decode cX8_takeClause 79 = .ok (.aload_n 0, 1) := by decide +kernel
theorem dX8_takeClause_80 : decode cX8_takeClause 80 = .ok (.getfield 104, 3) := by decide +kernel
theorem dX8_takeClause_83 : decode cX8_takeClause 83 = .ok (.invokevirtual 115, 3) := by decide +kernel
theorem dX8_takeClause_86 : decode cX8_takeClause 86 = .ok (.ireturn, 1) := by decide +kernel
theorem dX8_takeClause_87 : decode cX8_takeClause 87 = .ok (.aload_n 0, 1) := by decide +kernel
theorem dX8_takeClause_88 : decode cX8_takeClause 88 = .ok (.dup, 1) := by decide +kernel
theorem dX8_takeClause_89 : decode cX8_takeClause 89 = .ok (.getfield 104, 3) := by decide +kernel
theorem dX8_takeClause_92 : decode cX8_takeClause 92 = .ok (.iconst 1, 1) := by decide +kernel
theorem dX8_takeClause_93 : decode cX8_takeClause 93 = .ok (.iadd, 1) := by decide +kernel
theorem dX8_takeClause_94 : decode cX8_takeClause 94 = .ok (.putfield 104, 3) := by decide +kernel
theorem dX8_takeClause_97 : decode cX8_takeClause 97 = .ok (.iload_n 2, 1) := by decide +kernel
theorem dX8_takeClause_98 : decode cX8_takeClause 98 = .ok (.ifCond .ne 10, 3) := by decide +kernel
theorem dX8_takeClause_101 : decode cX8_takeClause 101 = .ok (.aload_n 0, 1) := by decide +kernel
theorem dX8_takeClause_102 : decode cX8_takeClause 102 = .ok (.invokevirtual 138, 3) := by decide +kernel
theorem dX8_takeClause_105 : decode cX8_takeClause 105 = .ok (.goto 19, 3) := by decide +kernel
theorem dX8_takeClause_108 : decode cX8_takeClause 108 = .ok (.iload_n 2, 1) := by decide +kernel
theorem dX8_takeClause_109 : decode cX8_takeClause 109 = .ok (.iconst 1, 1) := by decide +kernel
theorem dX8_takeClause_110 : decode cX8_takeClause 110 = .ok (.if_icmp .ne 10, 3) := by decide +kernel
theorem dX8_takeClause_113 : decode cX8_takeClause 113 = .ok (.aload_n 0, 1) := by decide +kernel
theorem dX8_takeClause_114 : decode cX8_takeClause 114 = .ok (.invokevirtual 141, 3) := by decide +kernel
theorem dX8_takeClause_117 : decode cX8_takeClause 117 = .ok (.goto 7, 3) := by decide +kernel
theorem dX8_takeClause_120 : decode cX8_takeClause 120 = .ok (.aload_n 0, 1) := by decide +kernel
theorem dX8_takeClause_121 : decode cX8_takeClause 121 = .ok (.invokevirtual 144, 3) := by decide +kernel
theorem dX8_takeClause_124 : decode cX8_takeClause 124 = .ok (.istore_n 3, 1) := by decide +kernel
theorem dX8_takeClause_125 : decode cX8_takeClause 125 = .ok (.iload_n 3, 1) := by decide +kernel
theorem dX8_takeClause_126 : decode cX8_takeClause 126 = .ok (.ifCond .ne 22, 3) := by decide +kernel
theorem dX8_takeClause_129 : decode cX8_takeClause 129 = .ok (.aload_n 0, 1) := by decide +kernel
theorem dX8_takeClause_130 : decode cX8_takeClause 130 = .ok (.invokevirtual 107, 3) := by decide +kernel
theorem dX8_takeClause_133 : decode cX8_takeClause 133 = .ok (.bipush 59, 2) := by decide +kernel
theorem dX8_takeClause_135 : decode cX8_takeClause 135 = .ok (.if_icmp .eq 13, 3) := by decide +kernel
theorem dX8_takeClause_138 : decode cX8_takeClause 138 = .ok (.aload_n 0, 1) := by decide +kernel
theorem dX8_takeClause_139 : decode cX8_takeClause 139 = .ok (.iconst 1, 1) := by decide +kernel
theorem dX8_takeClause_140 : decode cX8_takeClause 140 = .ok (.aload_n 0, 1) := by decide +kernel
theorem dX8_takeClause_141 : decode cX8_takeClause 141 = .ok (.getfield 104, 3) := by decide +kernel
theorem dX8_takeClause_144 : decode cX8_takeClause 144 = .ok (.invokevirtual 115, 3) := by decide +kernel
theorem dX8_takeClause_147 : decode cX8_takeClause 147 = .ok (.ireturn, 1) := by decide +kernel
theorem dX8_takeClause_148 : decode cX8_takeClause 148 = .ok (.aload_n 0, 1) := by decide +kernel
theorem dX8_takeClause_149 : decode cX8_takeClause 149 = .ok (.dup, 1) := by decide +kernel
theorem dX8_takeClause_150 : decode cX8_takeClause 150 = .ok (.getfield 104, 3) := by decide +kernel
theorem dX8_takeClause_153 : decode cX8_takeClause 153 = .ok (.iconst 1, 1) := by decide +kernel
theorem dX8_takeClause_154 : decode cX8_takeClause 154 = .ok (.iadd, 1) := by decide +kernel
theorem dX8_takeClause_155 : decode cX8_takeClause 155 = .ok (.putfield 104, 3) := by decide +kernel
theorem dX8_takeClause_158 : decode cX8_takeClause 158 = .ok (.iload_n 3, 1) := by decide +kernel
theorem dX8_takeClause_159 : decode cX8_takeClause 159 = .ok (.ireturn, 1) := by decide +kernel
theorem dX8_takeRead_0 : decode cX8_takeRead 0 = .ok (.aload_n 0, 1) := by decide +kernel
theorem dX8_takeRead_1 : decode cX8_takeRead 1 = .ok (.aload_n 0, 1) := by decide +kernel
theorem dX8_takeRead_2 : decode cX8_takeRead 2 = .ok (.getfield 128, 3) := by decide +kernel
theorem dX8_takeRead_5 : decode cX8_takeRead 5 = .ok (.putfield 87, 3) := by decide +kernel
theorem dX8_takeRead_8 : decode cX8_takeRead 8 = .ok (.aload_n 0, 1) := by decide +kernel
theorem dX8_takeRead_9 : decode cX8_takeRead 9 = .ok (.aload_n 0, 1) := by decide +kernel
theorem dX8_takeRead_10 : decode cX8_takeRead 10 = .ok (.getfield 135, 3) := by decide +kernel
theorem dX8_takeRead_13 : decode cX8_takeRead 13 = .ok (.putfield 94, 3) := by decide +kernel
theorem dX8_takeRead_16 : decode cX8_takeRead 16 = .ok (.iconst 0, 1) := by decide +kernel
theorem dX8_takeRead_17 : decode cX8_takeRead 17 = .ok (.istore_n 1, 1) := by decide +kernel
theorem dX8_takeRead_18 : decode cX8_takeRead 18 = .ok (.iload_n 1, 1) := by decide +kernel
theorem dX8_takeRead_19 : decode cX8_takeRead 19 = .ok (.aload_n 0, 1) := by decide +kernel
theorem dX8_takeRead_20 : decode cX8_takeRead 20 = .ok (.getfield 87, 3) := by decide +kernel
theorem dX8_takeRead_23 : decode cX8_takeRead 23 = .ok (.if_icmp .ge 21, 3) := by decide +kernel
theorem dX8_takeRead_26 : decode cX8_takeRead 26 = .ok (.aload_n 0, 1) := by decide +kernel
theorem dX8_takeRead_27 : decode cX8_takeRead 27 = .ok (.getfield 7, 3) := by decide +kernel
theorem dX8_takeRead_30 : decode cX8_takeRead 30 = .ok (.iload_n 1, 1) := by decide +kernel
theorem dX8_takeRead_31 : decode cX8_takeRead 31 = .ok (.aload_n 0, 1) := by decide +kernel
theorem dX8_takeRead_32 : decode cX8_takeRead 32 = .ok (.getfield 32, 3) := by decide +kernel
theorem dX8_takeRead_35 : decode cX8_takeRead 35 = .ok (.iload_n 1, 1) := by decide +kernel
theorem dX8_takeRead_36 : decode cX8_takeRead 36 = .ok (.iaload, 1) := by decide +kernel
theorem dX8_takeRead_37 : decode cX8_takeRead 37 = .ok (.iastore, 1) := by decide +kernel
theorem dX8_takeRead_38 : decode cX8_takeRead 38 = .ok (.iinc 1 1, 3) := by decide +kernel
theorem dX8_takeRead_41 : decode cX8_takeRead 41 = .ok (.goto (-23), 3) := by decide +kernel
theorem dX8_takeRead_44 : decode cX8_takeRead 44 = .ok (.iconst 0, 1) := by decide +kernel
theorem dX8_takeRead_45 : decode cX8_takeRead 45 = .ok (.istore_n 1, 1) := by decide +kernel
theorem dX8_takeRead_46 : decode cX8_takeRead 46 = .ok (.iload_n 1, 1) := by decide +kernel
theorem dX8_takeRead_47 : decode cX8_takeRead 47 = .ok (.bipush 49, 2) := by decide +kernel
theorem dX8_takeRead_49 : decode cX8_takeRead 49 = .ok (.if_icmp .ge 34, 3) := by decide +kernel
theorem dX8_takeRead_52 : decode cX8_takeRead 52 = .ok (.aload_n 0, 1) := by decide +kernel
theorem dX8_takeRead_53 : decode cX8_takeRead 53 = .ok (.getfield 13, 3) := by decide +kernel
theorem dX8_takeRead_56 : decode cX8_takeRead 56 = .ok (.iload_n 1, 1) := by decide +kernel
theorem dX8_takeRead_57 : decode cX8_takeRead 57 = .ok (.aload_n 0, 1) := by decide +kernel
theorem dX8_takeRead_58 : decode cX8_takeRead 58 = .ok (.getfield 41, 3) := by decide +kernel
theorem dX8_takeRead_61 : decode cX8_takeRead 61 = .ok (.iload_n 1, 1) := by decide +kernel
theorem dX8_takeRead_62 : decode cX8_takeRead 62 = .ok (.iaload, 1) := by decide +kernel
theorem dX8_takeRead_63 : decode cX8_takeRead 63 = .ok (.ifCond .le 12, 3) := by decide +kernel
theorem dX8_takeRead_66 : decode cX8_takeRead 66 = .ok (.aload_n 0, 1) := by decide +kernel
theorem dX8_takeRead_67 : decode cX8_takeRead 67 = .ok (.getfield 41, 3) := by decide +kernel
theorem dX8_takeRead_70 : decode cX8_takeRead 70 = .ok (.iload_n 1, 1) := by decide +kernel
theorem dX8_takeRead_71 : decode cX8_takeRead 71 = .ok (.iaload, 1) := by decide +kernel
theorem dX8_takeRead_72 : decode cX8_takeRead 72 = .ok (.goto 4, 3) := by decide +kernel
theorem dX8_takeRead_75 : decode cX8_takeRead 75 = .ok (.iconst 0, 1) := by decide +kernel
theorem dX8_takeRead_76 : decode cX8_takeRead 76 = .ok (.iastore, 1) := by decide +kernel
theorem dX8_takeRead_77 : decode cX8_takeRead 77 = .ok (.iinc 1 1, 3) := by decide +kernel
theorem dX8_takeRead_80 : decode cX8_takeRead 80 = .ok (.goto (-34), 3) := by decide +kernel
theorem dX8_takeRead_83 : decode cX8_takeRead 83 = .ok (.iconst 0, 1) := by decide +kernel
theorem dX8_takeRead_84 : decode cX8_takeRead 84 = .ok (.istore_n 1, 1) := by decide +kernel
theorem dX8_takeRead_85 : decode cX8_takeRead 85 = .ok (.iload_n 1, 1) := by decide +kernel
theorem dX8_takeRead_86 : decode cX8_takeRead 86 = .ok (.bipush 55, 2) := by decide +kernel
theorem dX8_takeRead_88 : decode cX8_takeRead 88 = .ok (.if_icmp .ge 16, 3) := by decide +kernel
theorem dX8_takeRead_91 : decode cX8_takeRead 91 = .ok (.aload_n 0, 1) := by decide +kernel
theorem dX8_takeRead_92 : decode cX8_takeRead 92 = .ok (.getfield 16, 3) := by decide +kernel
theorem dX8_takeRead_95 : decode cX8_takeRead 95 = .ok (.iload_n 1, 1) := by decide +kernel
theorem dX8_takeRead_96 : decode cX8_takeRead 96 = .ok (.iconst 0, 1) := by decide +kernel
theorem dX8_takeRead_97 : decode cX8_takeRead 97 = .ok (.iastore, 1) := by decide +kernel
theorem dX8_takeRead_98 : decode cX8_takeRead 98 = .ok (.iinc 1 1, 3) := by decide +kernel
theorem dX8_takeRead_101 : decode cX8_takeRead 101 = .ok (.goto (-16), 3) := by decide +kernel
theorem dX8_takeRead_104 : decode cX8_takeRead 104 = .ok (.iconst 0, 1) := by decide +kernel
theorem dX8_takeRead_105 : decode cX8_takeRead 105 = .ok (.istore_n 1, 1) := by decide +kernel
theorem dX8_takeRead_106 : decode cX8_takeRead 106 = .ok (.iload_n 1, 1) := by decide +kernel
theorem dX8_takeRead_107 : decode cX8_takeRead 107 = .ok (.bipush 7, 2) := by decide +kernel
theorem dX8_takeRead_109 : decode cX8_takeRead 109 = .ok (.if_icmp .ge 70, 3) := by decide +kernel
theorem dX8_takeRead_112 : decode cX8_takeRead 112 = .ok (.aload_n 0, 1) := by decide +kernel
theorem dX8_takeRead_113 : decode cX8_takeRead 113 = .ok (.getfield 16, 3) := by decide +kernel
theorem dX8_takeRead_116 : decode cX8_takeRead 116 = .ok (.iload_n 1, 1) := by decide +kernel
theorem dX8_takeRead_117 : decode cX8_takeRead 117 = .ok (.iload_n 1, 1) := by decide +kernel
theorem dX8_takeRead_118 : decode cX8_takeRead 118 = .ok (.aload_n 0, 1) := by decide +kernel
theorem dX8_takeRead_119 : decode cX8_takeRead 119 = .ok (.getfield 94, 3) := by decide +kernel
theorem dX8_takeRead_122 : decode cX8_takeRead 122 = .ok (.if_icmp .ge 12, 3) := by decide +kernel
theorem dX8_takeRead_125 : decode cX8_takeRead 125 = .ok (.aload_n 0, 1) := by decide +kernel
theorem dX8_takeRead_126 : decode cX8_takeRead 126 = .ok (.getfield 35, 3) := by decide +kernel
theorem dX8_takeRead_129 : decode cX8_takeRead 129 = .ok (.iload_n 1, 1) := by decide +kernel
theorem dX8_takeRead_130 : decode cX8_takeRead 130 = .ok (.iaload, 1) := by decide +kernel
theorem dX8_takeRead_131 : decode cX8_takeRead 131 = .ok (.goto 4, 3) := by decide +kernel
theorem dX8_takeRead_134 : decode cX8_takeRead 134 = .ok (.iconst 0, 1) := by decide +kernel
theorem dX8_takeRead_135 : decode cX8_takeRead 135 = .ok (.iastore, 1) := by decide +kernel
theorem dX8_takeRead_136 : decode cX8_takeRead 136 = .ok (.aload_n 0, 1) := by decide +kernel
theorem dX8_takeRead_137 : decode cX8_takeRead 137 = .ok (.getfield 16, 3) := by decide +kernel
theorem dX8_takeRead_140 : decode cX8_takeRead 140 = .ok (.bipush 7, 2) := by decide +kernel
theorem dX8_takeRead_142 : decode cX8_takeRead 142 = .ok (.iload_n 1, 1) := by decide +kernel
theorem dX8_takeRead_143 : decode cX8_takeRead 143 = .ok (.iadd, 1) := by decide +kernel
theorem dX8_takeRead_144 : decode cX8_takeRead 144 = .ok (.iconst (-1), 1) := by decide +kernel
theorem dX8_takeRead_145 : decode cX8_takeRead 145 = .ok (.iastore, 1) := by decide +kernel
theorem dX8_takeRead_146 : decode cX8_takeRead 146 = .ok (.aload_n 0, 1) := by decide +kernel
theorem dX8_takeRead_147 : decode cX8_takeRead 147 = .ok (.getfield 16, 3) := by decide +kernel
theorem dX8_takeRead_150 : decode cX8_takeRead 150 = .ok (.bipush 14, 2) := by decide +kernel
theorem dX8_takeRead_152 : decode cX8_takeRead 152 = .ok (.iload_n 1, 1) := by decide +kernel
theorem dX8_takeRead_153 : decode cX8_takeRead 153 = .ok (.iadd, 1) := by decide +kernel
theorem dX8_takeRead_154 : decode cX8_takeRead 154 = .ok (.iload_n 1, 1) := by decide +kernel
theorem dX8_takeRead_155 : decode cX8_takeRead 155 = .ok (.aload_n 0, 1) := by decide +kernel
theorem dX8_takeRead_156 : decode cX8_takeRead 156 = .ok (.getfield 94, 3) := by decide +kernel
theorem dX8_takeRead_159 : decode cX8_takeRead 159 = .ok (.if_icmp .ge 12, 3) := by decide +kernel
theorem dX8_takeRead_162 : decode cX8_takeRead 162 = .ok (.aload_n 0, 1) := by decide +kernel
theorem dX8_takeRead_163 : decode cX8_takeRead 163 = .ok (.getfield 38, 3) := by decide +kernel
end
section
theorem dX8_takeRead_166 : decode cX8_takeRead 166 = .ok (.iload_n 1, 1) := by decide +kernel
theorem dX8_takeRead_167 : decode cX8_takeRead 167 = .ok (.iaload, 1) := by decide +kernel
theorem dX8_takeRead_168 : decode cX8_takeRead 168 = .ok (.goto 4, 3) := by decide +kernel
theorem dX8_takeRead_171 : decode cX8_takeRead 171 = .ok (.iconst 0, 1) := by decide +kernel
theorem dX8_takeRead_172 : decode cX8_takeRead 172 = .ok (.iastore, 1) := by decide +kernel
theorem dX8_takeRead_173 : decode cX8_takeRead 173 = .ok (.iinc 1 1, 3) := by decide +kernel
theorem dX8_takeRead_176 : decode cX8_takeRead 176 = .ok (.goto (-70), 3) := by decide +kernel
theorem dX8_takeRead_179 : decode cX8_takeRead 179 = .ok (.return_, 1) := by decide +kernel
theorem dX8_common_0 : decode cX8_common 0 = .ok (.aload_n 0, 1) := by decide +kernel
theorem dX8_common_1 : decode cX8_common 1 = .ok (.iconst (-1), 1) := by decide +kernel
theorem dX8_common_2 : decode cX8_common 2 = .ok (.putfield 28, 3) := by decide +kernel
theorem dX8_common_5 : decode cX8_common 5 = .ok (.aload_n 0, 1) := by decide +kernel
theorem dX8_common_6 : decode cX8_common 6 = .ok (.iconst 0, 1) := by decide +kernel
theorem dX8_common_7 : decode cX8_common 7 = .ok (.putfield 104, 3) := by decide +kernel
theorem dX8_common_10 : decode cX8_common 10 = .ok (.aload_n 0, 1) := by decide +kernel
theorem dX8_common_11 : decode cX8_common 11 = .ok (.iconst 0, 1) := by decide +kernel
theorem dX8_common_12 : decode cX8_common 12 = .ok (.putfield 128, 3) := by decide +kernel
theorem dX8_common_15 : decode cX8_common 15 = .ok (.aload_n 0, 1) := by decide +kernel
theorem dX8_common_16 : decode cX8_common 16 = .ok (.iconst 0, 1) := by decide +kernel
theorem dX8_common_17 : decode cX8_common 17 = .ok (.putfield 135, 3) := by decide +kernel
theorem dX8_common_20 : decode cX8_common 20 = .ok (.iconst 0, 1) := by decide +kernel
theorem dX8_common_21 : decode cX8_common 21 = .ok (.istore_n 1, 1) := by decide +kernel
theorem dX8_common_22 : decode cX8_common 22 = .ok (.iload_n 1, 1) := by decide +kernel
theorem dX8_common_23 : decode cX8_common 23 = .ok (.bipush 49, 2) := by decide +kernel
theorem dX8_common_25 : decode cX8_common 25 = .ok (.if_icmp .ge 16, 3) := by decide +kernel
theorem dX8_common_28 : decode cX8_common 28 = .ok (.aload_n 0, 1) := by decide +kernel
theorem dX8_common_29 : decode cX8_common 29 = .ok (.getfield 41, 3) := by decide +kernel
theorem dX8_common_32 : decode cX8_common 32 = .ok (.iload_n 1, 1) := by decide +kernel
theorem dX8_common_33 : decode cX8_common 33 = .ok (.iconst (-1), 1) := by decide +kernel
theorem dX8_common_34 : decode cX8_common 34 = .ok (.iastore, 1) := by decide +kernel
theorem dX8_common_35 : decode cX8_common 35 = .ok (.iinc 1 1, 3) := by decide +kernel
theorem dX8_common_38 : decode cX8_common 38 = .ok (.goto (-16), 3) := by decide +kernel
theorem dX8_common_41 : decode cX8_common 41 = .ok (.iconst 0, 1) := by decide +kernel
theorem dX8_common_42 : decode cX8_common 42 = .ok (.istore_n 1, 1) := by decide +kernel
theorem dX8_common_43 : decode cX8_common 43 = .ok (.iload_n 1, 1) := by decide +kernel
theorem dX8_common_44 : decode cX8_common 44 = .ok (.ifCond .ne 18, 3) := by decide +kernel
theorem dX8_common_47 : decode cX8_common 47 = .ok (.aload_n 0, 1) := by decide +kernel
theorem dX8_common_48 : decode cX8_common 48 = .ok (.invokevirtual 107, 3) := by decide +kernel
theorem dX8_common_51 : decode cX8_common 51 = .ok (.ifCond .lt 11, 3) := by decide +kernel
theorem dX8_common_54 : decode cX8_common 54 = .ok (.aload_n 0, 1) := by decide +kernel
theorem dX8_common_55 : decode cX8_common 55 = .ok (.invokevirtual 147, 3) := by decide +kernel
theorem dX8_common_58 : decode cX8_common 58 = .ok (.istore_n 1, 1) := by decide +kernel
theorem dX8_common_59 : decode cX8_common 59 = .ok (.goto (-16), 3) := by decide +kernel
theorem dX8_common_62 : decode cX8_common 62 = .ok (.aload_n 0, 1) := by decide +kernel
theorem dX8_common_63 : decode cX8_common 63 = .ok (.iconst 0, 1) := by decide +kernel
theorem dX8_common_64 : decode cX8_common 64 = .ok (.putfield 100, 3) := by decide +kernel
theorem dX8_common_67 : decode cX8_common 67 = .ok (.iload_n 1, 1) := by decide +kernel
theorem dX8_common_68 : decode cX8_common 68 = .ok (.ifCond .le 8, 3) := by decide +kernel
theorem dX8_common_71 : decode cX8_common 71 = .ok (.bipush (-10), 2) := by decide +kernel
theorem dX8_common_73 : decode cX8_common 73 = .ok (.iload_n 1, 1) := by decide +kernel
theorem dX8_common_74 : decode cX8_common 74 = .ok (.isub, 1) := by decide +kernel
theorem dX8_common_75 : decode cX8_common 75 = .ok (.ireturn, 1) := by decide +kernel
theorem dX8_common_76 : decode cX8_common 76 = .ok (.aload_n 0, 1) := by decide +kernel
theorem dX8_common_77 : decode cX8_common 77 = .ok (.invokevirtual 150, 3) := by decide +kernel
theorem dX8_common_80 : decode cX8_common 80 = .ok (.aload_n 0, 1) := by decide +kernel
theorem dX8_common_81 : decode cX8_common 81 = .ok (.iconst 0, 1) := by decide +kernel
theorem dX8_common_82 : decode cX8_common 82 = .ok (.putfield 153, 3) := by decide +kernel
theorem dX8_common_85 : decode cX8_common 85 = .ok (.aload_n 0, 1) := by decide +kernel
theorem dX8_common_86 : decode cX8_common 86 = .ok (.iconst 0, 1) := by decide +kernel
theorem dX8_common_87 : decode cX8_common 87 = .ok (.putfield 156, 3) := by decide +kernel
theorem dX8_common_90 : decode cX8_common 90 = .ok (.aload_n 0, 1) := by decide +kernel
theorem dX8_common_91 : decode cX8_common 91 = .ok (.iconst 0, 1) := by decide +kernel
theorem dX8_common_92 : decode cX8_common 92 = .ok (.putfield 159, 3) := by decide +kernel
theorem dX8_common_95 : decode cX8_common 95 = .ok (.aload_n 0, 1) := by decide +kernel
theorem dX8_common_96 : decode cX8_common 96 = .ok (.getfield 84, 3) := by decide +kernel
theorem dX8_common_99 : decode cX8_common 99 = .ok (.iconst 0, 1) := by decide +kernel
theorem dX8_common_100 : decode cX8_common 100 = .ok (.iconst 0, 1) := by decide +kernel
theorem dX8_common_101 : decode cX8_common 101 = .ok (.bastore, 1) := by decide +kernel
theorem dX8_common_102 : decode cX8_common 102 = .ok (.aload_n 0, 1) := by decide +kernel
theorem dX8_common_103 : decode cX8_common 103 = .ok (.getfield 84, 3) := by decide +kernel
theorem dX8_common_106 : decode cX8_common 106 = .ok (.iconst 1, 1) := by decide +kernel
theorem dX8_common_107 : decode cX8_common 107 = .ok (.iconst 0, 1) := by decide +kernel
theorem dX8_common_108 : decode cX8_common 108 = .ok (.bastore, 1) := by decide +kernel
theorem dX8_common_109 : decode cX8_common 109 = .ok (.aload_n 0, 1) := by decide +kernel
theorem dX8_common_110 : decode cX8_common 110 = .ok (.getfield 94, 3) := by decide +kernel
theorem dX8_common_113 : decode cX8_common 113 = .ok (.ireturn, 1) := by decide +kernel
theorem dX8_fault_0 : decode cX8_fault 0 = .ok (.aload_n 0, 1) := by decide +kernel
theorem dX8_fault_1 : decode cX8_fault 1 = .ok (.getfield 28, 3) := by decide +kernel
theorem dX8_fault_4 : decode cX8_fault 4 = .ok (.ireturn, 1) := by decide +kernel
theorem dX8_like_0 : decode cX8_like 0 = .ok (.iload_n 1, 1) := by decide +kernel
theorem dX8_like_1 : decode cX8_like 1 = .ok (.aload_n 0, 1) := by decide +kernel
theorem dX8_like_2 : decode cX8_like 2 = .ok (.getfield 94, 3) := by decide +kernel
theorem dX8_like_5 : decode cX8_like 5 = .ok (.if_icmp .ge 43, 3) := by decide +kernel
theorem dX8_like_8 : decode cX8_like 8 = .ok (.iload_n 2, 1) := by decide +kernel
theorem dX8_like_9 : decode cX8_like 9 = .ok (.aload_n 0, 1) := by decide +kernel
theorem dX8_like_10 : decode cX8_like 10 = .ok (.getfield 94, 3) := by decide +kernel
theorem dX8_like_13 : decode cX8_like 13 = .ok (.if_icmp .ge 35, 3) := by decide +kernel
theorem dX8_like_16 : decode cX8_like 16 = .ok (.aload_n 0, 1) := by decide +kernel
theorem dX8_like_17 : decode cX8_like 17 = .ok (.getfield 13, 3) := by decide +kernel
theorem dX8_like_20 : decode cX8_like 20 = .ok (.bipush 7, 2) := by decide +kernel
theorem dX8_like_22 : decode cX8_like 22 = .ok (.iload_n 1, 1) := by decide +kernel
theorem dX8_like_23 : decode cX8_like 23 = .ok (.imul, 1) := by decide +kernel
theorem dX8_like_24 : decode cX8_like 24 = .ok (.iload_n 2, 1) := by decide +kernel
theorem dX8_like_25 : decode cX8_like 25 = .ok (.iadd, 1) := by decide +kernel
theorem dX8_like_26 : decode cX8_like 26 = .ok (.iaload, 1) := by decide +kernel
theorem dX8_like_27 : decode cX8_like 27 = .ok (.ifCond .le 21, 3) := by decide +kernel
theorem dX8_like_30 : decode cX8_like 30 = .ok (.aload_n 0, 1) := by decide +kernel
theorem dX8_like_31 : decode cX8_like 31 = .ok (.getfield 13, 3) := by decide +kernel
theorem dX8_like_34 : decode cX8_like 34 = .ok (.bipush 7, 2) := by decide +kernel
theorem dX8_like_36 : decode cX8_like 36 = .ok (.iload_n 2, 1) := by decide +kernel
theorem dX8_like_37 : decode cX8_like 37 = .ok (.imul, 1) := by decide +kernel
theorem dX8_like_38 : decode cX8_like 38 = .ok (.iload_n 1, 1) := by decide +kernel
theorem dX8_like_39 : decode cX8_like 39 = .ok (.iadd, 1) := by decide +kernel
theorem dX8_like_40 : decode cX8_like 40 = .ok (.iaload, 1) := by decide +kernel
theorem dX8_like_41 : decode cX8_like 41 = .ok (.ifCond .le 7, 3) := by decide +kernel
theorem dX8_like_44 : decode cX8_like 44 = .ok (.iconst 1, 1) := by decide +kernel
theorem dX8_like_45 : decode cX8_like 45 = .ok (.goto 4, 3) := by decide +kernel
theorem dX8_like_48 : decode cX8_like 48 = .ok (.iconst 0, 1) := by decide +kernel
theorem dX8_like_49 : decode cX8_like 49 = .ok (.ireturn, 1) := by decide +kernel
theorem dX8_would_0 : decode cX8_would 0 = .ok (.aload_n 0, 1) := by decide +kernel
theorem dX8_would_1 : decode cX8_would 1 = .ok (.iload_n 1, 1) := by decide +kernel
theorem dX8_would_2 : decode cX8_would 2 = .ok (.iload_n 2, 1) := by decide +kernel
theorem dX8_would_3 : decode cX8_would 3 = .ok (.invokevirtual 162, 3) := by decide +kernel
theorem dX8_would_6 : decode cX8_would 6 = .ok (.ifCond .eq 22, 3) := by decide +kernel
theorem dX8_would_9 : decode cX8_would 9 = .ok (.aload_n 0, 1) := by decide +kernel
theorem dX8_would_10 : decode cX8_would 10 = .ok (.getfield 16, 3) := by decide +kernel
theorem dX8_would_13 : decode cX8_would 13 = .ok (.iload_n 1, 1) := by decide +kernel
theorem dX8_would_14 : decode cX8_would 14 = .ok (.iaload, 1) := by decide +kernel
theorem dX8_would_15 : decode cX8_would 15 = .ok (.aload_n 0, 1) := by decide +kernel
theorem dX8_would_16 : decode cX8_would 16 = .ok (.getfield 16, 3) := by decide +kernel
theorem dX8_would_19 : decode cX8_would 19 = .ok (.iload_n 2, 1) := by decide +kernel
theorem dX8_would_20 : decode cX8_would 20 = .ok (.iaload, 1) := by decide +kernel
theorem dX8_would_21 : decode cX8_would 21 = .ok (.if_icmp .eq 7, 3) := by decide +kernel
theorem dX8_would_24 : decode cX8_would 24 = .ok (.iconst 1, 1) := by decide +kernel
theorem dX8_would_25 : decode cX8_would 25 = .ok (.goto 4, 3) := by decide +kernel
theorem dX8_would_28 : decode cX8_would 28 = .ok (.iconst 0, 1) := by decide +kernel
theorem dX8_would_29 : decode cX8_would 29 = .ok (.ireturn, 1) := by decide +kernel
theorem dX8_both_0 : decode cX8_both 0 = .ok (.aload_n 0, 1) := by decide +kernel
theorem dX8_both_1 : decode cX8_both 1 = .ok (.getfield 13, 3) := by decide +kernel
theorem dX8_both_4 : decode cX8_both 4 = .ok (.bipush 7, 2) := by decide +kernel
theorem dX8_both_6 : decode cX8_both 6 = .ok (.iload_n 1, 1) := by decide +kernel
theorem dX8_both_7 : decode cX8_both 7 = .ok (.imul, 1) := by decide +kernel
theorem dX8_both_8 : decode cX8_both 8 = .ok (.iload_n 2, 1) := by decide +kernel
theorem dX8_both_9 : decode cX8_both 9 = .ok (.iadd, 1) := by decide +kernel
theorem dX8_both_10 : decode cX8_both 10 = .ok (.iaload, 1) := by decide +kernel
theorem dX8_both_11 : decode cX8_both 11 = .ok (.aload_n 0, 1) := by decide +kernel
theorem dX8_both_12 : decode cX8_both 12 = .ok (.getfield 13, 3) := by decide +kernel
theorem dX8_both_15 : decode cX8_both 15 = .ok (.bipush 7, 2) := by decide +kernel
theorem dX8_both_17 : decode cX8_both 17 = .ok (.iload_n 2, 1) := by decide +kernel
theorem dX8_both_18 : decode cX8_both 18 = .ok (.imul, 1) := by decide +kernel
theorem dX8_both_19 : decode cX8_both 19 = .ok (.iload_n 1, 1) := by decide +kernel
theorem dX8_both_20 : decode cX8_both 20 = .ok (.iadd, 1) := by decide +kernel
theorem dX8_both_21 : decode cX8_both 21 = .ok (.iaload, 1) := by decide +kernel
theorem dX8_both_22 : decode cX8_both 22 = .ok (.iadd, 1) := by decide +kernel
theorem dX8_both_23 : decode cX8_both 23 = .ok (.ireturn, 1) := by decide +kernel
theorem dX8_allWith_0 : decode cX8_allWith 0 = .ok (.iconst 0, 1) := by decide +kernel
theorem dX8_allWith_1 : decode cX8_allWith 1 = .ok (.istore_n 2, 1) := by decide +kernel
theorem dX8_allWith_2 : decode cX8_allWith 2 = .ok (.iconst 0, 1) := by decide +kernel
theorem dX8_allWith_3 : decode cX8_allWith 3 = .ok (.istore_n 3, 1) := by decide +kernel
theorem dX8_allWith_4 : decode cX8_allWith 4 = .ok (.iload_n 3, 1) := by decide +kernel
theorem dX8_allWith_5 : decode cX8_allWith 5 = .ok (.aload_n 0, 1) := by decide +kernel
theorem dX8_allWith_6 : decode cX8_allWith 6 = .ok (.getfield 94, 3) := by decide +kernel
theorem dX8_allWith_9 : decode cX8_allWith 9 = .ok (.if_icmp .ge 31, 3) := by decide +kernel
theorem dX8_allWith_12 : decode cX8_allWith 12 = .ok (.iload_n 2, 1) := by decide +kernel
theorem dX8_allWith_13 : decode cX8_allWith 13 = .ok (.aload_n 0, 1) := by decide +kernel
theorem dX8_allWith_14 : decode cX8_allWith 14 = .ok (.getfield 16, 3) := by decide +kernel
theorem dX8_allWith_17 : decode cX8_allWith 17 = .ok (.iload_n 1, 1) := by decide +kernel
theorem dX8_allWith_18 : decode cX8_allWith 18 = .ok (.iload_n 3, 1) := by decide +kernel
theorem dX8_allWith_19 : decode cX8_allWith 19 = .ok (.iadd, 1) := by decide +kernel
theorem dX8_allWith_20 : decode cX8_allWith 20 = .ok (.iaload, 1) := by decide +kernel
theorem dX8_allWith_21 : decode cX8_allWith 21 = .ok (.iconst 1, 1) := by decide +kernel
theorem dX8_allWith_22 : decode cX8_allWith 22 = .ok (.if_icmp .ne 9, 3) := by decide +kernel
theorem dX8_allWith_25 : decode cX8_allWith 25 = .ok (.iconst 1, 1) := by decide +kernel
theorem dX8_allWith_26 : decode cX8_allWith 26 = .ok (.iload_n 3, 1) := by decide +kernel
theorem dX8_allWith_27 : decode cX8_allWith 27 = .ok (.ishl, 1) := by decide +kernel
theorem dX8_allWith_28 : decode cX8_allWith 28 = .ok (.goto 4, 3) := by decide +kernel
theorem dX8_allWith_31 : decode cX8_allWith 31 = .ok (.iconst 0, 1) := by decide +kernel
theorem dX8_allWith_32 : decode cX8_allWith 32 = .ok (.ior, 1) := by decide +kernel
theorem dX8_allWith_33 : decode cX8_allWith 33 = .ok (.istore_n 2, 1) := by decide +kernel
theorem dX8_allWith_34 : decode cX8_allWith 34 = .ok (.iinc 3 1, 3) := by decide +kernel
theorem dX8_allWith_37 : decode cX8_allWith 37 = .ok (.goto (-33), 3) := by decide +kernel
theorem dX8_allWith_40 : decode cX8_allWith 40 = .ok (.iload_n 2, 1) := by decide +kernel
theorem dX8_allWith_41 : decode cX8_allWith 41 = .ok (.ireturn, 1) := by decide +kernel
theorem dX8_waitingAt_0 : decode cX8_waitingAt 0 = .ok (.iconst 0, 1) := by decide +kernel
theorem dX8_waitingAt_1 : decode cX8_waitingAt 1 = .ok (.istore_n 2, 1) := by decide +kernel
theorem dX8_waitingAt_2 : decode cX8_waitingAt 2 = .ok (.iconst 0, 1) := by decide +kernel
theorem dX8_waitingAt_3 : decode cX8_waitingAt 3 = .ok (.istore_n 3, 1) := by decide +kernel
theorem dX8_waitingAt_4 : decode cX8_waitingAt 4 = .ok (.iload_n 3, 1) := by decide +kernel
theorem dX8_waitingAt_5 : decode cX8_waitingAt 5 = .ok (.aload_n 0, 1) := by decide +kernel
theorem dX8_waitingAt_6 : decode cX8_waitingAt 6 = .ok (.getfield 94, 3) := by decide +kernel
theorem dX8_waitingAt_9 : decode cX8_waitingAt 9 = .ok (.if_icmp .ge 32, 3) := by decide +kernel
theorem dX8_waitingAt_12 : decode cX8_waitingAt 12 = .ok (.iload_n 2, 1) := by decide +kernel
theorem dX8_waitingAt_13 : decode cX8_waitingAt 13 = .ok (.aload_n 0, 1) := by decide +kernel
theorem dX8_waitingAt_14 : decode cX8_waitingAt 14 = .ok (.getfield 16, 3) := by decide +kernel
theorem dX8_waitingAt_17 : decode cX8_waitingAt 17 = .ok (.bipush 7, 2) := by decide +kernel
theorem dX8_waitingAt_19 : decode cX8_waitingAt 19 = .ok (.iload_n 3, 1) := by decide +kernel
theorem dX8_waitingAt_20 : decode cX8_waitingAt 20 = .ok (.iadd, 1) := by decide +kernel
theorem dX8_waitingAt_21 : decode cX8_waitingAt 21 = .ok (.iaload, 1) := by decide +kernel
theorem dX8_waitingAt_22 : decode cX8_waitingAt 22 = .ok (.iload_n 1, 1) := by decide +kernel
theorem dX8_waitingAt_23 : decode cX8_waitingAt 23 = .ok (.if_icmp .ne 9, 3) := by decide +kernel
theorem dX8_waitingAt_26 : decode cX8_waitingAt 26 = .ok (.iconst 1, 1) := by decide +kernel
theorem dX8_waitingAt_27 : decode cX8_waitingAt 27 = .ok (.iload_n 3, 1) := by decide +kernel
theorem dX8_waitingAt_28 : decode cX8_waitingAt 28 = .ok (.ishl, 1) := by decide +kernel
theorem dX8_waitingAt_29 : decode cX8_waitingAt 29 = .ok (.goto 4, 3) := by decide +kernel
theorem dX8_waitingAt_32 : decode cX8_waitingAt 32 = .ok (.iconst 0, 1) := by decide +kernel
theorem dX8_waitingAt_33 : decode cX8_waitingAt 33 = .ok (.ior, 1) := by decide +kernel
theorem dX8_waitingAt_34 : decode cX8_waitingAt 34 = .ok (.istore_n 2, 1) := by decide +kernel
theorem dX8_waitingAt_35 : decode cX8_waitingAt 35 = .ok (.iinc 3 1, 3) := by decide +kernel
theorem dX8_waitingAt_38 : decode cX8_waitingAt 38 = .ok (.goto (-34), 3) := by decide +kernel
theorem dX8_waitingAt_41 : decode cX8_waitingAt 41 = .ok (.iload_n 2, 1) := by decide +kernel
theorem dX8_waitingAt_42 : decode cX8_waitingAt 42 = .ok (.ireturn, 1) := by decide +kernel
theorem dX8_waiting_0 : decode cX8_waiting 0 = .ok (.iconst 0, 1) := by decide +kernel
theorem dX8_waiting_1 : decode cX8_waiting 1 = .ok (.istore_n 1, 1) := by decide +kernel
theorem dX8_waiting_2 : decode cX8_waiting 2 = .ok (.iconst 0, 1) := by decide +kernel
theorem dX8_waiting_3 : decode cX8_waiting 3 = .ok (.istore_n 2, 1) := by decide +kernel
theorem dX8_waiting_4 : decode cX8_waiting 4 = .ok (.iload_n 2, 1) := by decide +kernel
theorem dX8_waiting_5 : decode cX8_waiting 5 = .ok (.aload_n 0, 1) := by decide +kernel
theorem dX8_waiting_6 : decode cX8_waiting 6 = .ok (.getfield 94, 3) := by decide +kernel
theorem dX8_waiting_9 : decode cX8_waiting 9 = .ok (.if_icmp .ge 31, 3) := by decide +kernel
theorem dX8_waiting_12 : decode cX8_waiting 12 = .ok (.iload_n 1, 1) := by decide +kernel
theorem dX8_waiting_13 : decode cX8_waiting 13 = .ok (.aload_n 0, 1) := by decide +kernel
theorem dX8_waiting_14 : decode cX8_waiting 14 = .ok (.getfield 16, 3) := by decide +kernel
theorem dX8_waiting_17 : decode cX8_waiting 17 = .ok (.bipush 7, 2) := by decide +kernel
theorem dX8_waiting_19 : decode cX8_waiting 19 = .ok (.iload_n 2, 1) := by decide +kernel
theorem dX8_waiting_20 : decode cX8_waiting 20 = .ok (.iadd, 1) := by decide +kernel
theorem dX8_waiting_21 : decode cX8_waiting 21 = .ok (.iaload, 1) := by decide +kernel
theorem dX8_waiting_22 : decode cX8_waiting 22 = .ok (.ifCond .lt 9, 3) := by decide +kernel
theorem dX8_waiting_25 : decode cX8_waiting 25 = .ok (.iconst 1, 1) := by decide +kernel
theorem dX8_waiting_26 : decode cX8_waiting 26 = .ok (.iload_n 2, 1) := by decide +kernel
theorem dX8_waiting_27 : decode cX8_waiting 27 = .ok (.ishl, 1) := by decide +kernel
theorem dX8_waiting_28 : decode cX8_waiting 28 = .ok (.goto 4, 3) := by decide +kernel
theorem dX8_waiting_31 : decode cX8_waiting 31 = .ok (.iconst 0, 1) := by decide +kernel
theorem dX8_waiting_32 : decode cX8_waiting 32 = .ok (.ior, 1) := by decide +kernel
theorem dX8_waiting_33 : decode cX8_waiting 33 = .ok (.istore_n 1, 1) := by decide +kernel
theorem dX8_waiting_34 : decode cX8_waiting 34 = .ok (.iinc 2 1, 3) := by decide +kernel
theorem dX8_waiting_37 : decode cX8_waiting 37 = .ok (.goto (-33), 3) := by decide +kernel
theorem dX8_waiting_40 : decode cX8_waiting 40 = .ok (.iload_n 1, 1) := by decide +kernel
theorem dX8_waiting_41 : decode cX8_waiting 41 = .ok (.ireturn, 1) := by decide +kernel
theorem dX8_rusted_0 : decode cX8_rusted 0 = .ok (.iconst 0, 1) := by decide +kernel
theorem dX8_rusted_1 : decode cX8_rusted 1 = .ok (.istore_n 1, 1) := by decide +kernel
theorem dX8_rusted_2 : decode cX8_rusted 2 = .ok (.iconst 0, 1) := by decide +kernel
theorem dX8_rusted_3 : decode cX8_rusted 3 = .ok (.istore_n 2, 1) := by decide +kernel
theorem dX8_rusted_4 : decode cX8_rusted 4 = .ok (.iload_n 2, 1) := by decide +kernel
theorem dX8_rusted_5 : decode cX8_rusted 5 = .ok (.aload_n 0, 1) := by decide +kernel
theorem dX8_rusted_6 : decode cX8_rusted 6 = .ok (.getfield 87, 3) := by decide +kernel
theorem dX8_rusted_9 : decode cX8_rusted 9 = .ok (.if_icmp .ge 32, 3) := by decide +kernel
theorem dX8_rusted_12 : decode cX8_rusted 12 = .ok (.iload_n 1, 1) := by decide +kernel
theorem dX8_rusted_13 : decode cX8_rusted 13 = .ok (.aload_n 0, 1) := by decide +kernel
theorem dX8_rusted_14 : decode cX8_rusted 14 = .ok (.getfield 16, 3) := by decide +kernel
theorem dX8_rusted_17 : decode cX8_rusted 17 = .ok (.bipush 26, 2) := by decide +kernel
theorem dX8_rusted_19 : decode cX8_rusted 19 = .ok (.iload_n 2, 1) := by decide +kernel
theorem dX8_rusted_20 : decode cX8_rusted 20 = .ok (.iadd, 1) := by decide +kernel
theorem dX8_rusted_21 : decode cX8_rusted 21 = .ok (.iaload, 1) := by decide +kernel
theorem dX8_rusted_22 : decode cX8_rusted 22 = .ok (.iconst 1, 1) := by decide +kernel
theorem dX8_rusted_23 : decode cX8_rusted 23 = .ok (.if_icmp .ne 9, 3) := by decide +kernel
theorem dX8_rusted_26 : decode cX8_rusted 26 = .ok (.iconst 1, 1) := by decide +kernel
theorem dX8_rusted_27 : decode cX8_rusted 27 = .ok (.iload_n 2, 1) := by decide +kernel
theorem dX8_rusted_28 : decode cX8_rusted 28 = .ok (.ishl, 1) := by decide +kernel
theorem dX8_rusted_29 : decode cX8_rusted 29 = .ok (.goto 4, 3) := by decide +kernel
theorem dX8_rusted_32 : decode cX8_rusted 32 = .ok (.iconst 0, 1) := by decide +kernel
theorem dX8_rusted_33 : decode cX8_rusted 33 = .ok (.ior, 1) := by decide +kernel
theorem dX8_rusted_34 : decode cX8_rusted 34 = .ok (.istore_n 1, 1) := by decide +kernel
theorem dX8_rusted_35 : decode cX8_rusted 35 = .ok (.iinc 2 1, 3) := by decide +kernel
theorem dX8_rusted_38 : decode cX8_rusted 38 = .ok (.goto (-34), 3) := by decide +kernel
theorem dX8_rusted_41 : decode cX8_rusted 41 = .ok (.iload_n 1, 1) := by decide +kernel
theorem dX8_rusted_42 : decode cX8_rusted 42 = .ok (.ireturn, 1) := by decide +kernel
theorem dX8_whomWould_0 : decode cX8_whomWould 0 = .ok (.iconst 0, 1) := by decide +kernel
theorem dX8_whomWould_1 : decode cX8_whomWould 1 = .ok (.istore_n 2, 1) := by decide +kernel
theorem dX8_whomWould_2 : decode cX8_whomWould 2 = .ok (.iconst 0, 1) := by decide +kernel
theorem dX8_whomWould_3 : decode cX8_whomWould 3 = .ok (.istore_n 3, 1) := by decide +kernel
theorem dX8_whomWould_4 : decode cX8_whomWould 4 = .ok (.iload_n 3, 1) := by decide +kernel
theorem dX8_whomWould_5 : decode cX8_whomWould 5 = .ok (.aload_n 0, 1) := by decide +kernel
theorem dX8_whomWould_6 : decode cX8_whomWould 6 = .ok (.getfield 94, 3) := by decide +kernel
theorem dX8_whomWould_9 : decode cX8_whomWould 9 = .ok (.if_icmp .ge 33, 3) := by decide +kernel
theorem dX8_whomWould_12 : decode cX8_whomWould 12 = .ok (.iload_n 2, 1) := by decide +kernel
theorem dX8_whomWould_13 : decode cX8_whomWould 13 = .ok (.iload_n 3, 1) := by decide +kernel
theorem dX8_whomWould_14 : decode cX8_whomWould 14 = .ok (.iload_n 1, 1) := by decide +kernel
theorem dX8_whomWould_15 : decode cX8_whomWould 15 = .ok (.if_icmp .eq 18, 3) := by decide +kernel
theorem dX8_whomWould_18 : decode cX8_whomWould 18 = .ok (.aload_n 0, 1) := by decide +kernel
theorem dX8_whomWould_19 : decode cX8_whomWould 19 = .ok (.iload_n 1, 1) := by decide +kernel
theorem dX8_whomWould_20 : decode cX8_whomWould 20 = .ok (.iload_n 3, 1) := by decide +kernel
theorem dX8_whomWould_21 : decode cX8_whomWould 21 = .ok (.invokevirtual 166, 3) := by decide +kernel
theorem dX8_whomWould_24 : decode cX8_whomWould 24 = .ok (.ifCond .eq 9, 3) := by decide +kernel
theorem dX8_whomWould_27 : decode cX8_whomWould 27 = .ok (.iconst 1, 1) := by decide +kernel
theorem dX8_whomWould_28 : decode cX8_whomWould 28 = .ok (.iload_n 3, 1) := by decide +kernel
theorem dX8_whomWould_29 : decode cX8_whomWould 29 = .ok (.ishl, 1) := by decide +kernel
theorem dX8_whomWould_30 : decode cX8_whomWould 30 = .ok (.goto 4, 3) := by decide +kernel
theorem dX8_whomWould_33 : decode cX8_whomWould 33 = .ok (.iconst 0, 1) := by decide +kernel
theorem dX8_whomWould_34 : decode cX8_whomWould 34 = .ok (.ior, 1) := by decide +kernel
theorem dX8_whomWould_35 : decode cX8_whomWould 35 = .ok (.istore_n 2, 1) := by decide +kernel
theorem dX8_whomWould_36 : decode cX8_whomWould 36 = .ok (.iinc 3 1, 3) := by decide +kernel
theorem dX8_whomWould_39 : decode cX8_whomWould 39 = .ok (.goto (-35), 3) := by decide +kernel
theorem dX8_whomWould_42 : decode cX8_whomWould 42 = .ok (.iload_n 2, 1) := by decide +kernel
theorem dX8_whomWould_43 : decode cX8_whomWould 43 = .ok (.ireturn, 1) := by decide +kernel
theorem dX8_told_0 : decode cX8_told 0 = .ok (.iload_n 1, 1) := by decide +kernel
theorem dX8_told_1 : decode cX8_told 1 = .ok (.tableswitch 156 0 13 #[71, 76, 81, 86, 94, 102, 110, 116, 123, 128, 133, 141, 146, 151], 71) := by decide +kernel
theorem dX8_told_72 : decode cX8_told 72 = .ok (.aload_n 0, 1) := by decide +kernel
theorem dX8_told_73 : decode cX8_told 73 = .ok (.getfield 87, 3) := by decide +kernel
theorem dX8_told_76 : decode cX8_told 76 = .ok (.ireturn, 1) := by decide +kernel
theorem dX8_told_77 : decode cX8_told 77 = .ok (.aload_n 0, 1) := by decide +kernel
theorem dX8_told_78 : decode cX8_told 78 = .ok (.getfield 94, 3) := by decide +kernel
theorem dX8_told_81 : decode cX8_told 81 = .ok (.ireturn, 1) := by decide +kernel
theorem dX8_told_82 : decode cX8_told 82 = .ok (.aload_n 0, 1) := by decide +kernel
theorem dX8_told_83 : decode cX8_told 83 = .ok (.getfield 100, 3) := by decide +kernel
theorem dX8_told_86 : decode cX8_told 86 = .ok (.ireturn, 1) := by decide +kernel
theorem dX8_told_87 : decode cX8_told 87 = .ok (.aload_n 0, 1) := by decide +kernel
theorem dX8_told_88 : decode cX8_told 88 = .ok (.getfield 16, 3) := by decide +kernel
theorem dX8_told_91 : decode cX8_told 91 = .ok (.bipush 31, 2) := by decide +kernel
theorem dX8_told_93 : decode cX8_told 93 = .ok (.iaload, 1) := by decide +kernel
theorem dX8_told_94 : decode cX8_told 94 = .ok (.ireturn, 1) := by decide +kernel
theorem dX8_told_95 : decode cX8_told 95 = .ok (.aload_n 0, 1) := by decide +kernel
theorem dX8_told_96 : decode cX8_told 96 = .ok (.getfield 16, 3) := by decide +kernel
theorem dX8_told_99 : decode cX8_told 99 = .ok (.bipush 32, 2) := by decide +kernel
theorem dX8_told_101 : decode cX8_told 101 = .ok (.iaload, 1) := by decide +kernel
theorem dX8_told_102 : decode cX8_told 102 = .ok (.ireturn, 1) := by decide +kernel
theorem dX8_told_103 : decode cX8_told 103 = .ok (.aload_n 0, 1) := by decide +kernel
theorem dX8_told_104 : decode cX8_told 104 = .ok (.getfield 16, 3) := by decide +kernel
theorem dX8_told_107 : decode cX8_told 107 = .ok (.bipush 33, 2) := by decide +kernel
theorem dX8_told_109 : decode cX8_told 109 = .ok (.iaload, 1) := by decide +kernel
theorem dX8_told_110 : decode cX8_told 110 = .ok (.ireturn, 1) := by decide +kernel
theorem dX8_told_111 : decode cX8_told 111 = .ok (.aload_n 0, 1) := by decide +kernel
theorem dX8_told_112 : decode cX8_told 112 = .ok (.iconst 0, 1) := by decide +kernel
theorem dX8_told_113 : decode cX8_told 113 = .ok (.invokevirtual 169, 3) := by decide +kernel
theorem dX8_told_116 : decode cX8_told 116 = .ok (.ireturn, 1) := by decide +kernel
theorem dX8_told_117 : decode cX8_told 117 = .ok (.aload_n 0, 1) := by decide +kernel
theorem dX8_told_118 : decode cX8_told 118 = .ok (.bipush 14, 2) := by decide +kernel
theorem dX8_told_120 : decode cX8_told 120 = .ok (.invokevirtual 169, 3) := by decide +kernel
theorem dX8_told_123 : decode cX8_told 123 = .ok (.ireturn, 1) := by decide +kernel
theorem dX8_told_124 : decode cX8_told 124 = .ok (.aload_n 0, 1) := by decide +kernel
theorem dX8_told_125 : decode cX8_told 125 = .ok (.invokevirtual 173, 3) := by decide +kernel
theorem dX8_told_128 : decode cX8_told 128 = .ok (.ireturn, 1) := by decide +kernel
theorem dX8_told_129 : decode cX8_told 129 = .ok (.aload_n 0, 1) := by decide +kernel
theorem dX8_told_130 : decode cX8_told 130 = .ok (.invokevirtual 176, 3) := by decide +kernel
theorem dX8_told_133 : decode cX8_told 133 = .ok (.ireturn, 1) := by decide +kernel
theorem dX8_told_134 : decode cX8_told 134 = .ok (.aload_n 0, 1) := by decide +kernel
theorem dX8_told_135 : decode cX8_told 135 = .ok (.getfield 16, 3) := by decide +kernel
theorem dX8_told_138 : decode cX8_told 138 = .ok (.bipush 34, 2) := by decide +kernel
theorem dX8_told_140 : decode cX8_told 140 = .ok (.iaload, 1) := by decide +kernel
theorem dX8_told_141 : decode cX8_told 141 = .ok (.ireturn, 1) := by decide +kernel
theorem dX8_told_142 : decode cX8_told 142 = .ok (.aload_n 0, 1) := by decide +kernel
theorem dX8_told_143 : decode cX8_told 143 = .ok (.getfield 153, 3) := by decide +kernel
theorem dX8_told_146 : decode cX8_told 146 = .ok (.ireturn, 1) := by decide +kernel
theorem dX8_told_147 : decode cX8_told 147 = .ok (.aload_n 0, 1) := by decide +kernel
theorem dX8_told_148 : decode cX8_told 148 = .ok (.getfield 156, 3) := by decide +kernel
theorem dX8_told_151 : decode cX8_told 151 = .ok (.ireturn, 1) := by decide +kernel
theorem dX8_told_152 : decode cX8_told 152 = .ok (.aload_n 0, 1) := by decide +kernel
theorem dX8_told_153 : decode cX8_told 153 = .ok (.getfield 159, 3) := by decide +kernel
theorem dX8_told_156 : decode cX8_told 156 = .ok (.ireturn, 1) := by decide +kernel
theorem dX8_told_157 : decode cX8_told 157 = .ok (.ldc 99, 2) := by decide +kernel
theorem dX8_told_159 : decode cX8_told 159 = .ok (.ireturn, 1) := by decide +kernel
theorem dX8_gate_0 : decode cX8_gate 0 = .ok (.aload_n 0, 1) := by decide +kernel
theorem dX8_gate_1 : decode cX8_gate 1 = .ok (.iload_n 1, 1) := by decide +kernel
theorem dX8_gate_2 : decode cX8_gate 2 = .ok (.invokevirtual 179, 3) := by decide +kernel
theorem dX8_gate_5 : decode cX8_gate 5 = .ok (.ifCond .ne 6, 3) := by decide +kernel
theorem dX8_gate_8 : decode cX8_gate 8 = .ok (.ldc 183, 2) := by decide +kernel
theorem dX8_gate_10 : decode cX8_gate 10 = .ok (.ireturn, 1) := by decide +kernel
theorem dX8_gate_11 : decode cX8_gate 11 = .ok (.iload_n 2, 1) := by decide +kernel
theorem dX8_gate_12 : decode cX8_gate 12 = .ok (.tableswitch 65 0 3 #[32, 39, 49, 59], 32) := by decide +kernel
theorem dX8_gate_44 : decode cX8_gate 44 = .ok (.aload_n 0, 1) := by decide +kernel
theorem dX8_gate_45 : decode cX8_gate 45 = .ok (.getfield 7, 3) := by decide +kernel
theorem dX8_gate_48 : decode cX8_gate 48 = .ok (.iload_n 1, 1) := by decide +kernel
theorem dX8_gate_49 : decode cX8_gate 49 = .ok (.iaload, 1) := by decide +kernel
theorem dX8_gate_50 : decode cX8_gate 50 = .ok (.ireturn, 1) := by decide +kernel
theorem dX8_gate_51 : decode cX8_gate 51 = .ok (.aload_n 0, 1) := by decide +kernel
theorem dX8_gate_52 : decode cX8_gate 52 = .ok (.getfield 16, 3) := by decide +kernel
theorem dX8_gate_55 : decode cX8_gate 55 = .ok (.bipush 21, 2) := by decide +kernel
theorem dX8_gate_57 : decode cX8_gate 57 = .ok (.iload_n 1, 1) := by decide +kernel
theorem dX8_gate_58 : decode cX8_gate 58 = .ok (.iadd, 1) := by decide +kernel
theorem dX8_gate_59 : decode cX8_gate 59 = .ok (.iaload, 1) := by decide +kernel
theorem dX8_gate_60 : decode cX8_gate 60 = .ok (.ireturn, 1) := by decide +kernel
theorem dX8_gate_61 : decode cX8_gate 61 = .ok (.aload_n 0, 1) := by decide +kernel
theorem dX8_gate_62 : decode cX8_gate 62 = .ok (.getfield 16, 3) := by decide +kernel
theorem dX8_gate_65 : decode cX8_gate 65 = .ok (.bipush 26, 2) := by decide +kernel
theorem dX8_gate_67 : decode cX8_gate 67 = .ok (.iload_n 1, 1) := by decide +kernel
theorem dX8_gate_68 : decode cX8_gate 68 = .ok (.iadd, 1) := by decide +kernel
theorem dX8_gate_69 : decode cX8_gate 69 = .ok (.iaload, 1) := by decide +kernel
theorem dX8_gate_70 : decode cX8_gate 70 = .ok (.ireturn, 1) := by decide +kernel
theorem dX8_gate_71 : decode cX8_gate 71 = .ok (.aload_n 0, 1) := by decide +kernel
theorem dX8_gate_72 : decode cX8_gate 72 = .ok (.iload_n 1, 1) := by decide +kernel
theorem dX8_gate_73 : decode cX8_gate 73 = .ok (.invokevirtual 184, 3) := by decide +kernel
theorem dX8_gate_76 : decode cX8_gate 76 = .ok (.ireturn, 1) := by decide +kernel
theorem dX8_gate_77 : decode cX8_gate 77 = .ok (.ldc 99, 2) := by decide +kernel
theorem dX8_gate_79 : decode cX8_gate 79 = .ok (.ireturn, 1) := by decide +kernel
theorem dX8_person_0 : decode cX8_person 0 = .ok (.aload_n 0, 1) := by decide +kernel
theorem dX8_person_1 : decode cX8_person 1 = .ok (.iload_n 1, 1) := by decide +kernel
theorem dX8_person_2 : decode cX8_person 2 = .ok (.invokevirtual 187, 3) := by decide +kernel
theorem dX8_person_5 : decode cX8_person 5 = .ok (.ifCond .ne 6, 3) := by decide +kernel
theorem dX8_person_8 : decode cX8_person 8 = .ok (.ldc 183, 2) := by decide +kernel
theorem dX8_person_10 : decode cX8_person 10 = .ok (.ireturn, 1) := by decide +kernel
theorem dX8_person_11 : decode cX8_person 11 = .ok (.iload_n 2, 1) := by decide +kernel
theorem dX8_person_12 : decode cX8_person 12 = .ok (.tableswitch 65 0 3 #[32, 39, 49, 59], 32) := by decide +kernel
theorem dX8_person_44 : decode cX8_person 44 = .ok (.aload_n 0, 1) := by decide +kernel
theorem dX8_person_45 : decode cX8_person 45 = .ok (.getfield 16, 3) := by decide +kernel
theorem dX8_person_48 : decode cX8_person 48 = .ok (.iload_n 1, 1) := by decide +kernel
theorem dX8_person_49 : decode cX8_person 49 = .ok (.iaload, 1) := by decide +kernel
theorem dX8_person_50 : decode cX8_person 50 = .ok (.ireturn, 1) := by decide +kernel
theorem dX8_person_51 : decode cX8_person 51 = .ok (.aload_n 0, 1) := by decide +kernel
theorem dX8_person_52 : decode cX8_person 52 = .ok (.getfield 16, 3) := by decide +kernel
theorem dX8_person_55 : decode cX8_person 55 = .ok (.bipush 7, 2) := by decide +kernel
theorem dX8_person_57 : decode cX8_person 57 = .ok (.iload_n 1, 1) := by decide +kernel
theorem dX8_person_58 : decode cX8_person 58 = .ok (.iadd, 1) := by decide +kernel
theorem dX8_person_59 : decode cX8_person 59 = .ok (.iaload, 1) := by decide +kernel
theorem dX8_person_60 : decode cX8_person 60 = .ok (.ireturn, 1) := by decide +kernel
theorem dX8_person_61 : decode cX8_person 61 = .ok (.aload_n 0, 1) := by decide +kernel
theorem dX8_person_62 : decode cX8_person 62 = .ok (.getfield 16, 3) := by decide +kernel
theorem dX8_person_65 : decode cX8_person 65 = .ok (.bipush 14, 2) := by decide +kernel
theorem dX8_person_67 : decode cX8_person 67 = .ok (.iload_n 1, 1) := by decide +kernel
theorem dX8_person_68 : decode cX8_person 68 = .ok (.iadd, 1) := by decide +kernel
theorem dX8_person_69 : decode cX8_person 69 = .ok (.iaload, 1) := by decide +kernel
theorem dX8_person_70 : decode cX8_person 70 = .ok (.ireturn, 1) := by decide +kernel
theorem dX8_person_71 : decode cX8_person 71 = .ok (.aload_n 0, 1) := by decide +kernel
theorem dX8_person_72 : decode cX8_person 72 = .ok (.iload_n 1, 1) := by decide +kernel
theorem dX8_person_73 : decode cX8_person 73 = .ok (.invokevirtual 190, 3) := by decide +kernel
theorem dX8_person_76 : decode cX8_person 76 = .ok (.ireturn, 1) := by decide +kernel
theorem dX8_person_77 : decode cX8_person 77 = .ok (.ldc 99, 2) := by decide +kernel
theorem dX8_person_79 : decode cX8_person 79 = .ok (.ireturn, 1) := by decide +kernel
theorem dX8_likes_0 : decode cX8_likes 0 = .ok (.aload_n 0, 1) := by decide +kernel
theorem dX8_likes_1 : decode cX8_likes 1 = .ok (.iload_n 1, 1) := by decide +kernel
theorem dX8_likes_2 : decode cX8_likes 2 = .ok (.invokevirtual 187, 3) := by decide +kernel
theorem dX8_likes_5 : decode cX8_likes 5 = .ok (.ifCond .eq 30, 3) := by decide +kernel
theorem dX8_likes_8 : decode cX8_likes 8 = .ok (.aload_n 0, 1) := by decide +kernel
theorem dX8_likes_9 : decode cX8_likes 9 = .ok (.iload_n 2, 1) := by decide +kernel
theorem dX8_likes_10 : decode cX8_likes 10 = .ok (.invokevirtual 187, 3) := by decide +kernel
theorem dX8_likes_13 : decode cX8_likes 13 = .ok (.ifCond .eq 22, 3) := by decide +kernel
theorem dX8_likes_16 : decode cX8_likes 16 = .ok (.iload_n 1, 1) := by decide +kernel
theorem dX8_likes_17 : decode cX8_likes 17 = .ok (.iload_n 2, 1) := by decide +kernel
theorem dX8_likes_18 : decode cX8_likes 18 = .ok (.if_icmp .eq 17, 3) := by decide +kernel
theorem dX8_likes_21 : decode cX8_likes 21 = .ok (.aload_n 0, 1) := by decide +kernel
theorem dX8_likes_22 : decode cX8_likes 22 = .ok (.getfield 13, 3) := by decide +kernel
theorem dX8_likes_25 : decode cX8_likes 25 = .ok (.bipush 7, 2) := by decide +kernel
theorem dX8_likes_27 : decode cX8_likes 27 = .ok (.iload_n 1, 1) := by decide +kernel
theorem dX8_likes_28 : decode cX8_likes 28 = .ok (.imul, 1) := by decide +kernel
theorem dX8_likes_29 : decode cX8_likes 29 = .ok (.iload_n 2, 1) := by decide +kernel
theorem dX8_likes_30 : decode cX8_likes 30 = .ok (.iadd, 1) := by decide +kernel
theorem dX8_likes_31 : decode cX8_likes 31 = .ok (.iaload, 1) := by decide +kernel
theorem dX8_likes_32 : decode cX8_likes 32 = .ok (.goto 5, 3) := by decide +kernel
theorem dX8_likes_35 : decode cX8_likes 35 = .ok (.ldc 183, 2) := by decide +kernel
theorem dX8_likes_37 : decode cX8_likes 37 = .ok (.ireturn, 1) := by decide +kernel
theorem dX8_logged_0 : decode cX8_logged 0 = .ok (.iload_n 1, 1) := by decide +kernel
theorem dX8_logged_1 : decode cX8_logged 1 = .ok (.i2l, 1) := by decide +kernel
theorem dX8_logged_2 : decode cX8_logged 2 = .ok (.lconst 0, 1) := by decide +kernel
theorem dX8_logged_3 : decode cX8_logged 3 = .ok (.aload_n 0, 1) := by decide +kernel
theorem dX8_logged_4 : decode cX8_logged 4 = .ok (.getfield 16, 3) := by decide +kernel
theorem dX8_logged_7 : decode cX8_logged 7 = .ok (.bipush 34, 2) := by decide +kernel
theorem dX8_logged_9 : decode cX8_logged 9 = .ok (.iaload, 1) := by decide +kernel
theorem dX8_logged_10 : decode cX8_logged 10 = .ok (.iconst 1, 1) := by decide +kernel
theorem dX8_logged_11 : decode cX8_logged 11 = .ok (.isub, 1) := by decide +kernel
theorem dX8_logged_12 : decode cX8_logged 12 = .ok (.i2l, 1) := by decide +kernel
theorem dX8_logged_13 : decode cX8_logged 13 = .ok (.invokestatic 90, 3) := by decide +kernel
theorem dX8_logged_16 : decode cX8_logged 16 = .ok (.ifCond .eq 25, 3) := by decide +kernel
theorem dX8_logged_19 : decode cX8_logged 19 = .ok (.aload_n 0, 1) := by decide +kernel
theorem dX8_logged_20 : decode cX8_logged 20 = .ok (.getfield 16, 3) := by decide +kernel
theorem dX8_logged_23 : decode cX8_logged 23 = .ok (.bipush 35, 2) := by decide +kernel
theorem dX8_logged_25 : decode cX8_logged 25 = .ok (.aload_n 0, 1) := by decide +kernel
theorem dX8_logged_26 : decode cX8_logged 26 = .ok (.getfield 16, 3) := by decide +kernel
theorem dX8_logged_29 : decode cX8_logged 29 = .ok (.bipush 34, 2) := by decide +kernel
theorem dX8_logged_31 : decode cX8_logged 31 = .ok (.iaload, 1) := by decide +kernel
theorem dX8_logged_32 : decode cX8_logged 32 = .ok (.iadd, 1) := by decide +kernel
theorem dX8_logged_33 : decode cX8_logged 33 = .ok (.iconst 1, 1) := by decide +kernel
theorem dX8_logged_34 : decode cX8_logged 34 = .ok (.isub, 1) := by decide +kernel
theorem dX8_logged_35 : decode cX8_logged 35 = .ok (.iload_n 1, 1) := by decide +kernel
theorem dX8_logged_36 : decode cX8_logged 36 = .ok (.isub, 1) := by decide +kernel
theorem dX8_logged_37 : decode cX8_logged 37 = .ok (.iaload, 1) := by decide +kernel
theorem dX8_logged_38 : decode cX8_logged 38 = .ok (.goto 4, 3) := by decide +kernel
theorem dX8_logged_41 : decode cX8_logged 41 = .ok (.iconst (-1), 1) := by decide +kernel
theorem dX8_logged_42 : decode cX8_logged 42 = .ok (.ireturn, 1) := by decide +kernel
theorem dX8_remember_0 : decode cX8_remember 0 = .ok (.aload_n 0, 1) := by decide +kernel
theorem dX8_remember_1 : decode cX8_remember 1 = .ok (.getfield 159, 3) := by decide +kernel
theorem dX8_remember_4 : decode cX8_remember 4 = .ok (.bipush 20, 2) := by decide +kernel
theorem dX8_remember_6 : decode cX8_remember 6 = .ok (.if_icmp .ne 44, 3) := by decide +kernel
theorem dX8_remember_9 : decode cX8_remember 9 = .ok (.bipush 55, 2) := by decide +kernel
theorem dX8_remember_11 : decode cX8_remember 11 = .ok (.istore_n 1, 1) := by decide +kernel
theorem dX8_remember_12 : decode cX8_remember 12 = .ok (.iload_n 1, 1) := by decide +kernel
theorem dX8_remember_13 : decode cX8_remember 13 = .ok (.sipush 1100, 3) := by decide +kernel
theorem dX8_remember_16 : decode cX8_remember 16 = .ok (.if_icmp .ge 24, 3) := by decide +kernel
theorem dX8_remember_19 : decode cX8_remember 19 = .ok (.aload_n 0, 1) := by decide +kernel
theorem dX8_remember_20 : decode cX8_remember 20 = .ok (.getfield 44, 3) := by decide +kernel
theorem dX8_remember_23 : decode cX8_remember 23 = .ok (.iload_n 1, 1) := by decide +kernel
theorem dX8_remember_24 : decode cX8_remember 24 = .ok (.bipush 55, 2) := by decide +kernel
theorem dX8_remember_26 : decode cX8_remember 26 = .ok (.isub, 1) := by decide +kernel
theorem dX8_remember_27 : decode cX8_remember 27 = .ok (.aload_n 0, 1) := by decide +kernel
theorem dX8_remember_28 : decode cX8_remember 28 = .ok (.getfield 44, 3) := by decide +kernel
theorem dX8_remember_31 : decode cX8_remember 31 = .ok (.iload_n 1, 1) := by decide +kernel
theorem dX8_remember_32 : decode cX8_remember 32 = .ok (.iaload, 1) := by decide +kernel
theorem dX8_remember_33 : decode cX8_remember 33 = .ok (.iastore, 1) := by decide +kernel
theorem dX8_remember_34 : decode cX8_remember 34 = .ok (.iinc 1 1, 3) := by decide +kernel
theorem dX8_remember_37 : decode cX8_remember 37 = .ok (.goto (-25), 3) := by decide +kernel
theorem dX8_remember_40 : decode cX8_remember 40 = .ok (.aload_n 0, 1) := by decide +kernel
theorem dX8_remember_41 : decode cX8_remember 41 = .ok (.dup, 1) := by decide +kernel
theorem dX8_remember_42 : decode cX8_remember 42 = .ok (.getfield 159, 3) := by decide +kernel
theorem dX8_remember_45 : decode cX8_remember 45 = .ok (.iconst 1, 1) := by decide +kernel
theorem dX8_remember_46 : decode cX8_remember 46 = .ok (.isub, 1) := by decide +kernel
theorem dX8_remember_47 : decode cX8_remember 47 = .ok (.putfield 159, 3) := by decide +kernel
theorem dX8_remember_50 : decode cX8_remember 50 = .ok (.iconst 0, 1) := by decide +kernel
theorem dX8_remember_51 : decode cX8_remember 51 = .ok (.istore_n 1, 1) := by decide +kernel
theorem dX8_remember_52 : decode cX8_remember 52 = .ok (.iload_n 1, 1) := by decide +kernel
theorem dX8_remember_53 : decode cX8_remember 53 = .ok (.bipush 55, 2) := by decide +kernel
theorem dX8_remember_55 : decode cX8_remember 55 = .ok (.if_icmp .ge 29, 3) := by decide +kernel
theorem dX8_remember_58 : decode cX8_remember 58 = .ok (.aload_n 0, 1) := by decide +kernel
theorem dX8_remember_59 : decode cX8_remember 59 = .ok (.getfield 44, 3) := by decide +kernel
theorem dX8_remember_62 : decode cX8_remember 62 = .ok (.bipush 55, 2) := by decide +kernel
theorem dX8_remember_64 : decode cX8_remember 64 = .ok (.aload_n 0, 1) := by decide +kernel
theorem dX8_remember_65 : decode cX8_remember 65 = .ok (.getfield 159, 3) := by decide +kernel
theorem dX8_remember_68 : decode cX8_remember 68 = .ok (.imul, 1) := by decide +kernel
theorem dX8_remember_69 : decode cX8_remember 69 = .ok (.iload_n 1, 1) := by decide +kernel
theorem dX8_remember_70 : decode cX8_remember 70 = .ok (.iadd, 1) := by decide +kernel
theorem dX8_remember_71 : decode cX8_remember 71 = .ok (.aload_n 0, 1) := by decide +kernel
theorem dX8_remember_72 : decode cX8_remember 72 = .ok (.getfield 16, 3) := by decide +kernel
theorem dX8_remember_75 : decode cX8_remember 75 = .ok (.iload_n 1, 1) := by decide +kernel
theorem dX8_remember_76 : decode cX8_remember 76 = .ok (.iaload, 1) := by decide +kernel
theorem dX8_remember_77 : decode cX8_remember 77 = .ok (.iastore, 1) := by decide +kernel
theorem dX8_remember_78 : decode cX8_remember 78 = .ok (.iinc 1 1, 3) := by decide +kernel
theorem dX8_remember_81 : decode cX8_remember 81 = .ok (.goto (-29), 3) := by decide +kernel
theorem dX8_remember_84 : decode cX8_remember 84 = .ok (.aload_n 0, 1) := by decide +kernel
theorem dX8_remember_85 : decode cX8_remember 85 = .ok (.dup, 1) := by decide +kernel
theorem dX8_remember_86 : decode cX8_remember 86 = .ok (.getfield 159, 3) := by decide +kernel
theorem dX8_remember_89 : decode cX8_remember 89 = .ok (.iconst 1, 1) := by decide +kernel
theorem dX8_remember_90 : decode cX8_remember 90 = .ok (.iadd, 1) := by decide +kernel
theorem dX8_remember_91 : decode cX8_remember 91 = .ok (.putfield 159, 3) := by decide +kernel
theorem dX8_remember_94 : decode cX8_remember 94 = .ok (.return_, 1) := by decide +kernel
theorem dX8_log_0 : decode cX8_log 0 = .ok (.aload_n 0, 1) := by decide +kernel
theorem dX8_log_1 : decode cX8_log 1 = .ok (.getfield 16, 3) := by decide +kernel
theorem dX8_log_4 : decode cX8_log 4 = .ok (.bipush 34, 2) := by decide +kernel
theorem dX8_log_6 : decode cX8_log 6 = .ok (.iaload, 1) := by decide +kernel
theorem dX8_log_7 : decode cX8_log 7 = .ok (.bipush 20, 2) := by decide +kernel
theorem dX8_log_9 : decode cX8_log 9 = .ok (.if_icmp .ne 43, 3) := by decide +kernel
theorem dX8_log_12 : decode cX8_log 12 = .ok (.bipush 36, 2) := by decide +kernel
theorem dX8_log_14 : decode cX8_log 14 = .ok (.istore_n 2, 1) := by decide +kernel
theorem dX8_log_15 : decode cX8_log 15 = .ok (.iload_n 2, 1) := by decide +kernel
theorem dX8_log_16 : decode cX8_log 16 = .ok (.bipush 55, 2) := by decide +kernel
theorem dX8_log_18 : decode cX8_log 18 = .ok (.if_icmp .ge 23, 3) := by decide +kernel
theorem dX8_log_21 : decode cX8_log 21 = .ok (.aload_n 0, 1) := by decide +kernel
theorem dX8_log_22 : decode cX8_log 22 = .ok (.getfield 16, 3) := by decide +kernel
theorem dX8_log_25 : decode cX8_log 25 = .ok (.iload_n 2, 1) := by decide +kernel
theorem dX8_log_26 : decode cX8_log 26 = .ok (.iconst 1, 1) := by decide +kernel
theorem dX8_log_27 : decode cX8_log 27 = .ok (.isub, 1) := by decide +kernel
theorem dX8_log_28 : decode cX8_log 28 = .ok (.aload_n 0, 1) := by decide +kernel
theorem dX8_log_29 : decode cX8_log 29 = .ok (.getfield 16, 3) := by decide +kernel
theorem dX8_log_32 : decode cX8_log 32 = .ok (.iload_n 2, 1) := by decide +kernel
theorem dX8_log_33 : decode cX8_log 33 = .ok (.iaload, 1) := by decide +kernel
theorem dX8_log_34 : decode cX8_log 34 = .ok (.iastore, 1) := by decide +kernel
theorem dX8_log_35 : decode cX8_log 35 = .ok (.iinc 2 1, 3) := by decide +kernel
theorem dX8_log_38 : decode cX8_log 38 = .ok (.goto (-23), 3) := by decide +kernel
theorem dX8_log_41 : decode cX8_log 41 = .ok (.aload_n 0, 1) := by decide +kernel
theorem dX8_log_42 : decode cX8_log 42 = .ok (.getfield 16, 3) := by decide +kernel
theorem dX8_log_45 : decode cX8_log 45 = .ok (.bipush 34, 2) := by decide +kernel
theorem dX8_log_47 : decode cX8_log 47 = .ok (.dup2, 1) := by decide +kernel
theorem dX8_log_48 : decode cX8_log 48 = .ok (.iaload, 1) := by decide +kernel
theorem dX8_log_49 : decode cX8_log 49 = .ok (.iconst 1, 1) := by decide +kernel
theorem dX8_log_50 : decode cX8_log 50 = .ok (.isub, 1) := by decide +kernel
theorem dX8_log_51 : decode cX8_log 51 = .ok (.iastore, 1) := by decide +kernel
theorem dX8_log_52 : decode cX8_log 52 = .ok (.aload_n 0, 1) := by decide +kernel
theorem dX8_log_53 : decode cX8_log 53 = .ok (.getfield 16, 3) := by decide +kernel
theorem dX8_log_56 : decode cX8_log 56 = .ok (.bipush 35, 2) := by decide +kernel
theorem dX8_log_58 : decode cX8_log 58 = .ok (.aload_n 0, 1) := by decide +kernel
theorem dX8_log_59 : decode cX8_log 59 = .ok (.getfield 16, 3) := by decide +kernel
theorem dX8_log_62 : decode cX8_log 62 = .ok (.bipush 34, 2) := by decide +kernel
theorem dX8_log_64 : decode cX8_log 64 = .ok (.iaload, 1) := by decide +kernel
theorem dX8_log_65 : decode cX8_log 65 = .ok (.iadd, 1) := by decide +kernel
theorem dX8_log_66 : decode cX8_log 66 = .ok (.iload_n 1, 1) := by decide +kernel
theorem dX8_log_67 : decode cX8_log 67 = .ok (.iastore, 1) := by decide +kernel
theorem dX8_log_68 : decode cX8_log 68 = .ok (.aload_n 0, 1) := by decide +kernel
theorem dX8_log_69 : decode cX8_log 69 = .ok (.getfield 16, 3) := by decide +kernel
theorem dX8_log_72 : decode cX8_log 72 = .ok (.bipush 34, 2) := by decide +kernel
theorem dX8_log_74 : decode cX8_log 74 = .ok (.dup2, 1) := by decide +kernel
theorem dX8_log_75 : decode cX8_log 75 = .ok (.iaload, 1) := by decide +kernel
theorem dX8_log_76 : decode cX8_log 76 = .ok (.iconst 1, 1) := by decide +kernel
theorem dX8_log_77 : decode cX8_log 77 = .ok (.iadd, 1) := by decide +kernel
theorem dX8_log_78 : decode cX8_log 78 = .ok (.iastore, 1) := by decide +kernel
theorem dX8_log_79 : decode cX8_log 79 = .ok (.return_, 1) := by decide +kernel
theorem dX8_meet_0 : decode cX8_meet 0 = .ok (.aload_n 0, 1) := by decide +kernel
theorem dX8_meet_1 : decode cX8_meet 1 = .ok (.getfield 16, 3) := by decide +kernel
theorem dX8_meet_4 : decode cX8_meet 4 = .ok (.iload_n 1, 1) := by decide +kernel
theorem dX8_meet_5 : decode cX8_meet 5 = .ok (.iconst 1, 1) := by decide +kernel
theorem dX8_meet_6 : decode cX8_meet 6 = .ok (.aload_n 0, 1) := by decide +kernel
theorem dX8_meet_7 : decode cX8_meet 7 = .ok (.getfield 16, 3) := by decide +kernel
theorem dX8_meet_10 : decode cX8_meet 10 = .ok (.iload_n 1, 1) := by decide +kernel
theorem dX8_meet_11 : decode cX8_meet 11 = .ok (.iaload, 1) := by decide +kernel
theorem dX8_meet_12 : decode cX8_meet 12 = .ok (.isub, 1) := by decide +kernel
theorem dX8_meet_13 : decode cX8_meet 13 = .ok (.iastore, 1) := by decide +kernel
theorem dX8_meet_14 : decode cX8_meet 14 = .ok (.aload_n 0, 1) := by decide +kernel
theorem dX8_meet_15 : decode cX8_meet 15 = .ok (.getfield 16, 3) := by decide +kernel
theorem dX8_meet_18 : decode cX8_meet 18 = .ok (.iload_n 2, 1) := by decide +kernel
theorem dX8_meet_19 : decode cX8_meet 19 = .ok (.iconst 1, 1) := by decide +kernel
theorem dX8_meet_20 : decode cX8_meet 20 = .ok (.aload_n 0, 1) := by decide +kernel
theorem dX8_meet_21 : decode cX8_meet 21 = .ok (.getfield 16, 3) := by decide +kernel
theorem dX8_meet_24 : decode cX8_meet 24 = .ok (.iload_n 2, 1) := by decide +kernel
theorem dX8_meet_25 : decode cX8_meet 25 = .ok (.iaload, 1) := by decide +kernel
theorem dX8_meet_26 : decode cX8_meet 26 = .ok (.isub, 1) := by decide +kernel
theorem dX8_meet_27 : decode cX8_meet 27 = .ok (.iastore, 1) := by decide +kernel
theorem dX8_meet_28 : decode cX8_meet 28 = .ok (.aload_n 0, 1) := by decide +kernel
theorem dX8_meet_29 : decode cX8_meet 29 = .ok (.getfield 16, 3) := by decide +kernel
theorem dX8_meet_32 : decode cX8_meet 32 = .ok (.bipush 7, 2) := by decide +kernel
theorem dX8_meet_34 : decode cX8_meet 34 = .ok (.iload_n 1, 1) := by decide +kernel
theorem dX8_meet_35 : decode cX8_meet 35 = .ok (.iadd, 1) := by decide +kernel
theorem dX8_meet_36 : decode cX8_meet 36 = .ok (.iconst (-1), 1) := by decide +kernel
theorem dX8_meet_37 : decode cX8_meet 37 = .ok (.iastore, 1) := by decide +kernel
theorem dX8_meet_38 : decode cX8_meet 38 = .ok (.aload_n 0, 1) := by decide +kernel
theorem dX8_meet_39 : decode cX8_meet 39 = .ok (.getfield 16, 3) := by decide +kernel
theorem dX8_meet_42 : decode cX8_meet 42 = .ok (.bipush 7, 2) := by decide +kernel
theorem dX8_meet_44 : decode cX8_meet 44 = .ok (.iload_n 2, 1) := by decide +kernel
theorem dX8_meet_45 : decode cX8_meet 45 = .ok (.iadd, 1) := by decide +kernel
theorem dX8_meet_46 : decode cX8_meet 46 = .ok (.iconst (-1), 1) := by decide +kernel
theorem dX8_meet_47 : decode cX8_meet 47 = .ok (.iastore, 1) := by decide +kernel
theorem dX8_meet_48 : decode cX8_meet 48 = .ok (.aload_n 0, 1) := by decide +kernel
theorem dX8_meet_49 : decode cX8_meet 49 = .ok (.getfield 16, 3) := by decide +kernel
theorem dX8_meet_52 : decode cX8_meet 52 = .ok (.bipush 14, 2) := by decide +kernel
theorem dX8_meet_54 : decode cX8_meet 54 = .ok (.iload_n 1, 1) := by decide +kernel
theorem dX8_meet_55 : decode cX8_meet 55 = .ok (.iadd, 1) := by decide +kernel
theorem dX8_meet_56 : decode cX8_meet 56 = .ok (.iaload, 1) := by decide +kernel
theorem dX8_meet_57 : decode cX8_meet 57 = .ok (.iconst 1, 1) := by decide +kernel
theorem dX8_meet_58 : decode cX8_meet 58 = .ok (.if_icmp .eq 16, 3) := by decide +kernel
theorem dX8_meet_61 : decode cX8_meet 61 = .ok (.aload_n 0, 1) := by decide +kernel
theorem dX8_meet_62 : decode cX8_meet 62 = .ok (.getfield 16, 3) := by decide +kernel
theorem dX8_meet_65 : decode cX8_meet 65 = .ok (.bipush 14, 2) := by decide +kernel
theorem dX8_meet_67 : decode cX8_meet 67 = .ok (.iload_n 2, 1) := by decide +kernel
theorem dX8_meet_68 : decode cX8_meet 68 = .ok (.iadd, 1) := by decide +kernel
theorem dX8_meet_69 : decode cX8_meet 69 = .ok (.iaload, 1) := by decide +kernel
theorem dX8_meet_70 : decode cX8_meet 70 = .ok (.iconst 1, 1) := by decide +kernel
theorem dX8_meet_71 : decode cX8_meet 71 = .ok (.if_icmp .ne 7, 3) := by decide +kernel
theorem dX8_meet_74 : decode cX8_meet 74 = .ok (.iconst 1, 1) := by decide +kernel
theorem dX8_meet_75 : decode cX8_meet 75 = .ok (.goto 4, 3) := by decide +kernel
theorem dX8_meet_78 : decode cX8_meet 78 = .ok (.iconst 0, 1) := by decide +kernel
theorem dX8_meet_79 : decode cX8_meet 79 = .ok (.istore_n 3, 1) := by decide +kernel
theorem dX8_meet_80 : decode cX8_meet 80 = .ok (.aload_n 0, 1) := by decide +kernel
theorem dX8_meet_81 : decode cX8_meet 81 = .ok (.getfield 16, 3) := by decide +kernel
theorem dX8_meet_84 : decode cX8_meet 84 = .ok (.bipush 14, 2) := by decide +kernel
theorem dX8_meet_86 : decode cX8_meet 86 = .ok (.iload_n 1, 1) := by decide +kernel
theorem dX8_meet_87 : decode cX8_meet 87 = .ok (.iadd, 1) := by decide +kernel
theorem dX8_meet_88 : decode cX8_meet 88 = .ok (.iload_n 3, 1) := by decide +kernel
theorem dX8_meet_89 : decode cX8_meet 89 = .ok (.iastore, 1) := by decide +kernel
theorem dX8_meet_90 : decode cX8_meet 90 = .ok (.aload_n 0, 1) := by decide +kernel
theorem dX8_meet_91 : decode cX8_meet 91 = .ok (.getfield 16, 3) := by decide +kernel
theorem dX8_meet_94 : decode cX8_meet 94 = .ok (.bipush 14, 2) := by decide +kernel
theorem dX8_meet_96 : decode cX8_meet 96 = .ok (.iload_n 2, 1) := by decide +kernel
theorem dX8_meet_97 : decode cX8_meet 97 = .ok (.iadd, 1) := by decide +kernel
theorem dX8_meet_98 : decode cX8_meet 98 = .ok (.iload_n 3, 1) := by decide +kernel
theorem dX8_meet_99 : decode cX8_meet 99 = .ok (.iastore, 1) := by decide +kernel
theorem dX8_meet_100 : decode cX8_meet 100 = .ok (.aload_n 0, 1) := by decide +kernel
theorem dX8_meet_101 : decode cX8_meet 101 = .ok (.getfield 16, 3) := by decide +kernel
theorem dX8_meet_104 : decode cX8_meet 104 = .ok (.bipush 32, 2) := by decide +kernel
theorem dX8_meet_106 : decode cX8_meet 106 = .ok (.dup2, 1) := by decide +kernel
theorem dX8_meet_107 : decode cX8_meet 107 = .ok (.iaload, 1) := by decide +kernel
theorem dX8_meet_108 : decode cX8_meet 108 = .ok (.iconst 1, 1) := by decide +kernel
theorem dX8_meet_109 : decode cX8_meet 109 = .ok (.iadd, 1) := by decide +kernel
theorem dX8_meet_110 : decode cX8_meet 110 = .ok (.iastore, 1) := by decide +kernel
theorem dX8_meet_111 : decode cX8_meet 111 = .ok (.aload_n 0, 1) := by decide +kernel
theorem dX8_meet_112 : decode cX8_meet 112 = .ok (.bipush 10, 2) := by decide +kernel
theorem dX8_meet_114 : decode cX8_meet 114 = .ok (.iload_n 1, 1) := by decide +kernel
theorem dX8_meet_115 : decode cX8_meet 115 = .ok (.imul, 1) := by decide +kernel
theorem dX8_meet_116 : decode cX8_meet 116 = .ok (.iload_n 2, 1) := by decide +kernel
theorem dX8_meet_117 : decode cX8_meet 117 = .ok (.iadd, 1) := by decide +kernel
theorem dX8_meet_118 : decode cX8_meet 118 = .ok (.invokevirtual 193, 3) := by decide +kernel
theorem dX8_meet_121 : decode cX8_meet 121 = .ok (.return_, 1) := by decide +kernel
theorem dX8_pairAt_0 : decode cX8_pairAt 0 = .ok (.iconst (-1), 1) := by decide +kernel
theorem dX8_pairAt_1 : decode cX8_pairAt 1 = .ok (.istore_n 2, 1) := by decide +kernel
theorem dX8_pairAt_2 : decode cX8_pairAt 2 = .ok (.iconst 0, 1) := by decide +kernel
theorem dX8_pairAt_3 : decode cX8_pairAt 3 = .ok (.istore_n 3, 1) := by decide +kernel
theorem dX8_pairAt_4 : decode cX8_pairAt 4 = .ok (.iload_n 3, 1) := by decide +kernel
theorem dX8_pairAt_5 : decode cX8_pairAt 5 = .ok (.bipush 21, 2) := by decide +kernel
theorem dX8_pairAt_7 : decode cX8_pairAt 7 = .ok (.if_icmp .ge 171, 3) := by decide +kernel
theorem dX8_pairAt_10 : decode cX8_pairAt 10 = .ok (.aload_n 0, 1) := by decide +kernel
theorem dX8_pairAt_11 : decode cX8_pairAt 11 = .ok (.getfield 19, 3) := by decide +kernel
theorem dX8_pairAt_14 : decode cX8_pairAt 14 = .ok (.iload_n 3, 1) := by decide +kernel
theorem dX8_pairAt_15 : decode cX8_pairAt 15 = .ok (.iaload, 1) := by decide +kernel
theorem dX8_pairAt_16 : decode cX8_pairAt 16 = .ok (.aload_n 0, 1) := by decide +kernel
theorem dX8_pairAt_17 : decode cX8_pairAt 17 = .ok (.getfield 94, 3) := by decide +kernel
theorem dX8_pairAt_20 : decode cX8_pairAt 20 = .ok (.if_icmp .ge 56, 3) := by decide +kernel
theorem dX8_pairAt_23 : decode cX8_pairAt 23 = .ok (.aload_n 0, 1) := by decide +kernel
theorem dX8_pairAt_24 : decode cX8_pairAt 24 = .ok (.getfield 22, 3) := by decide +kernel
theorem dX8_pairAt_27 : decode cX8_pairAt 27 = .ok (.iload_n 3, 1) := by decide +kernel
theorem dX8_pairAt_28 : decode cX8_pairAt 28 = .ok (.iaload, 1) := by decide +kernel
theorem dX8_pairAt_29 : decode cX8_pairAt 29 = .ok (.aload_n 0, 1) := by decide +kernel
theorem dX8_pairAt_30 : decode cX8_pairAt 30 = .ok (.getfield 94, 3) := by decide +kernel
theorem dX8_pairAt_33 : decode cX8_pairAt 33 = .ok (.if_icmp .ge 43, 3) := by decide +kernel
theorem dX8_pairAt_36 : decode cX8_pairAt 36 = .ok (.aload_n 0, 1) := by decide +kernel
theorem dX8_pairAt_37 : decode cX8_pairAt 37 = .ok (.getfield 16, 3) := by decide +kernel
theorem dX8_pairAt_40 : decode cX8_pairAt 40 = .ok (.bipush 7, 2) := by decide +kernel
theorem dX8_pairAt_42 : decode cX8_pairAt 42 = .ok (.aload_n 0, 1) := by decide +kernel
theorem dX8_pairAt_43 : decode cX8_pairAt 43 = .ok (.getfield 19, 3) := by decide +kernel
theorem dX8_pairAt_46 : decode cX8_pairAt 46 = .ok (.iload_n 3, 1) := by decide +kernel
theorem dX8_pairAt_47 : decode cX8_pairAt 47 = .ok (.iaload, 1) := by decide +kernel
theorem dX8_pairAt_48 : decode cX8_pairAt 48 = .ok (.iadd, 1) := by decide +kernel
theorem dX8_pairAt_49 : decode cX8_pairAt 49 = .ok (.iaload, 1) := by decide +kernel
theorem dX8_pairAt_50 : decode cX8_pairAt 50 = .ok (.iload_n 1, 1) := by decide +kernel
theorem dX8_pairAt_51 : decode cX8_pairAt 51 = .ok (.if_icmp .ne 25, 3) := by decide +kernel
theorem dX8_pairAt_54 : decode cX8_pairAt 54 = .ok (.aload_n 0, 1) := by decide +kernel
theorem dX8_pairAt_55 : decode cX8_pairAt 55 = .ok (.getfield 16, 3) := by decide +kernel
theorem dX8_pairAt_58 : decode cX8_pairAt 58 = .ok (.bipush 7, 2) := by decide +kernel
theorem dX8_pairAt_60 : decode cX8_pairAt 60 = .ok (.aload_n 0, 1) := by decide +kernel
theorem dX8_pairAt_61 : decode cX8_pairAt 61 = .ok (.getfield 22, 3) := by decide +kernel
theorem dX8_pairAt_64 : decode cX8_pairAt 64 = .ok (.iload_n 3, 1) := by decide +kernel
theorem dX8_pairAt_65 : decode cX8_pairAt 65 = .ok (.iaload, 1) := by decide +kernel
theorem dX8_pairAt_66 : decode cX8_pairAt 66 = .ok (.iadd, 1) := by decide +kernel
theorem dX8_pairAt_67 : decode cX8_pairAt 67 = .ok (.iaload, 1) := by decide +kernel
theorem dX8_pairAt_68 : decode cX8_pairAt 68 = .ok (.iload_n 1, 1) := by decide +kernel
theorem dX8_pairAt_69 : decode cX8_pairAt 69 = .ok (.if_icmp .ne 7, 3) := by decide +kernel
theorem dX8_pairAt_72 : decode cX8_pairAt 72 = .ok (.iconst 1, 1) := by decide +kernel
theorem dX8_pairAt_73 : decode cX8_pairAt 73 = .ok (.goto 4, 3) := by decide +kernel
theorem dX8_pairAt_76 : decode cX8_pairAt 76 = .ok (.iconst 0, 1) := by decide +kernel
theorem dX8_pairAt_77 : decode cX8_pairAt 77 = .ok (.istore 4, 2) := by decide +kernel
theorem dX8_pairAt_79 : decode cX8_pairAt 79 = .ok (.iload 4, 2) := by decide +kernel
theorem dX8_pairAt_81 : decode cX8_pairAt 81 = .ok (.ifCond .eq 26, 3) := by decide +kernel
theorem dX8_pairAt_84 : decode cX8_pairAt 84 = .ok (.aload_n 0, 1) := by decide +kernel
theorem dX8_pairAt_85 : decode cX8_pairAt 85 = .ok (.aload_n 0, 1) := by decide +kernel
theorem dX8_pairAt_86 : decode cX8_pairAt 86 = .ok (.getfield 19, 3) := by decide +kernel
theorem dX8_pairAt_89 : decode cX8_pairAt 89 = .ok (.iload_n 3, 1) := by decide +kernel
theorem dX8_pairAt_90 : decode cX8_pairAt 90 = .ok (.iaload, 1) := by decide +kernel
theorem dX8_pairAt_91 : decode cX8_pairAt 91 = .ok (.aload_n 0, 1) := by decide +kernel
theorem dX8_pairAt_92 : decode cX8_pairAt 92 = .ok (.getfield 22, 3) := by decide +kernel
theorem dX8_pairAt_95 : decode cX8_pairAt 95 = .ok (.iload_n 3, 1) := by decide +kernel
theorem dX8_pairAt_96 : decode cX8_pairAt 96 = .ok (.iaload, 1) := by decide +kernel
theorem dX8_pairAt_97 : decode cX8_pairAt 97 = .ok (.invokevirtual 166, 3) := by decide +kernel
theorem dX8_pairAt_100 : decode cX8_pairAt 100 = .ok (.ifCond .eq 7, 3) := by decide +kernel
theorem dX8_pairAt_103 : decode cX8_pairAt 103 = .ok (.iconst 1, 1) := by decide +kernel
theorem dX8_pairAt_104 : decode cX8_pairAt 104 = .ok (.goto 4, 3) := by decide +kernel
theorem dX8_pairAt_107 : decode cX8_pairAt 107 = .ok (.iconst 0, 1) := by decide +kernel
theorem dX8_pairAt_108 : decode cX8_pairAt 108 = .ok (.istore 5, 2) := by decide +kernel
theorem dX8_pairAt_110 : decode cX8_pairAt 110 = .ok (.iload 5, 2) := by decide +kernel
theorem dX8_pairAt_112 : decode cX8_pairAt 112 = .ok (.ifCond .eq 46, 3) := by decide +kernel
theorem dX8_pairAt_115 : decode cX8_pairAt 115 = .ok (.iload_n 2, 1) := by decide +kernel
theorem dX8_pairAt_116 : decode cX8_pairAt 116 = .ok (.ifCond .lt 38, 3) := by decide +kernel
theorem dX8_pairAt_119 : decode cX8_pairAt 119 = .ok (.aload_n 0, 1) := by decide +kernel
theorem dX8_pairAt_120 : decode cX8_pairAt 120 = .ok (.aload_n 0, 1) := by decide +kernel
theorem dX8_pairAt_121 : decode cX8_pairAt 121 = .ok (.getfield 19, 3) := by decide +kernel
theorem dX8_pairAt_124 : decode cX8_pairAt 124 = .ok (.iload_n 3, 1) := by decide +kernel
theorem dX8_pairAt_125 : decode cX8_pairAt 125 = .ok (.iaload, 1) := by decide +kernel
theorem dX8_pairAt_126 : decode cX8_pairAt 126 = .ok (.aload_n 0, 1) := by decide +kernel
theorem dX8_pairAt_127 : decode cX8_pairAt 127 = .ok (.getfield 22, 3) := by decide +kernel
theorem dX8_pairAt_130 : decode cX8_pairAt 130 = .ok (.iload_n 3, 1) := by decide +kernel
theorem dX8_pairAt_131 : decode cX8_pairAt 131 = .ok (.iaload, 1) := by decide +kernel
theorem dX8_pairAt_132 : decode cX8_pairAt 132 = .ok (.invokevirtual 197, 3) := by decide +kernel
theorem dX8_pairAt_135 : decode cX8_pairAt 135 = .ok (.aload_n 0, 1) := by decide +kernel
theorem dX8_pairAt_136 : decode cX8_pairAt 136 = .ok (.aload_n 0, 1) := by decide +kernel
theorem dX8_pairAt_137 : decode cX8_pairAt 137 = .ok (.getfield 19, 3) := by decide +kernel
theorem dX8_pairAt_140 : decode cX8_pairAt 140 = .ok (.iload_n 2, 1) := by decide +kernel
theorem dX8_pairAt_141 : decode cX8_pairAt 141 = .ok (.iaload, 1) := by decide +kernel
theorem dX8_pairAt_142 : decode cX8_pairAt 142 = .ok (.aload_n 0, 1) := by decide +kernel
theorem dX8_pairAt_143 : decode cX8_pairAt 143 = .ok (.getfield 22, 3) := by decide +kernel
theorem dX8_pairAt_146 : decode cX8_pairAt 146 = .ok (.iload_n 2, 1) := by decide +kernel
theorem dX8_pairAt_147 : decode cX8_pairAt 147 = .ok (.iaload, 1) := by decide +kernel
theorem dX8_pairAt_148 : decode cX8_pairAt 148 = .ok (.invokevirtual 197, 3) := by decide +kernel
theorem dX8_pairAt_151 : decode cX8_pairAt 151 = .ok (.if_icmp .le 7, 3) := by decide +kernel
theorem dX8_pairAt_154 : decode cX8_pairAt 154 = .ok (.iconst 1, 1) := by decide +kernel
theorem dX8_pairAt_155 : decode cX8_pairAt 155 = .ok (.goto 4, 3) := by decide +kernel
theorem dX8_pairAt_158 : decode cX8_pairAt 158 = .ok (.iconst 0, 1) := by decide +kernel
theorem dX8_pairAt_159 : decode cX8_pairAt 159 = .ok (.istore 6, 2) := by decide +kernel
theorem dX8_pairAt_161 : decode cX8_pairAt 161 = .ok (.iload 6, 2) := by decide +kernel
theorem dX8_pairAt_163 : decode cX8_pairAt 163 = .ok (.ifCond .eq 7, 3) := by decide +kernel
theorem dX8_pairAt_166 : decode cX8_pairAt 166 = .ok (.iload_n 3, 1) := by decide +kernel
theorem dX8_pairAt_167 : decode cX8_pairAt 167 = .ok (.goto 4, 3) := by decide +kernel
theorem dX8_pairAt_170 : decode cX8_pairAt 170 = .ok (.iload_n 2, 1) := by decide +kernel
theorem dX8_pairAt_171 : decode cX8_pairAt 171 = .ok (.istore_n 2, 1) := by decide +kernel
theorem dX8_pairAt_172 : decode cX8_pairAt 172 = .ok (.iinc 3 1, 3) := by decide +kernel
theorem dX8_pairAt_175 : decode cX8_pairAt 175 = .ok (.goto (-171), 3) := by decide +kernel
theorem dX8_pairAt_178 : decode cX8_pairAt 178 = .ok (.iload_n 2, 1) := by decide +kernel
theorem dX8_pairAt_179 : decode cX8_pairAt 179 = .ok (.ireturn, 1) := by decide +kernel
theorem dX8_pass_0 : decode cX8_pass 0 = .ok (.iconst 0, 1) := by decide +kernel
theorem dX8_pass_1 : decode cX8_pass 1 = .ok (.istore_n 1, 1) := by decide +kernel
theorem dX8_pass_2 : decode cX8_pass 2 = .ok (.iload_n 1, 1) := by decide +kernel
theorem dX8_pass_3 : decode cX8_pass 3 = .ok (.aload_n 0, 1) := by decide +kernel
theorem dX8_pass_4 : decode cX8_pass 4 = .ok (.getfield 87, 3) := by decide +kernel
theorem dX8_pass_7 : decode cX8_pass 7 = .ok (.if_icmp .ge 105, 3) := by decide +kernel
theorem dX8_pass_10 : decode cX8_pass 10 = .ok (.aload_n 0, 1) := by decide +kernel
theorem dX8_pass_11 : decode cX8_pass 11 = .ok (.getfield 16, 3) := by decide +kernel
theorem dX8_pass_14 : decode cX8_pass 14 = .ok (.bipush 26, 2) := by decide +kernel
theorem dX8_pass_16 : decode cX8_pass 16 = .ok (.iload_n 1, 1) := by decide +kernel
theorem dX8_pass_17 : decode cX8_pass 17 = .ok (.iadd, 1) := by decide +kernel
theorem dX8_pass_18 : decode cX8_pass 18 = .ok (.iaload, 1) := by decide +kernel
theorem dX8_pass_19 : decode cX8_pass 19 = .ok (.ifCond .ne 87, 3) := by decide +kernel
theorem dX8_pass_22 : decode cX8_pass 22 = .ok (.aload_n 0, 1) := by decide +kernel
theorem dX8_pass_23 : decode cX8_pass 23 = .ok (.iload_n 1, 1) := by decide +kernel
theorem dX8_pass_24 : decode cX8_pass 24 = .ok (.invokevirtual 200, 3) := by decide +kernel
theorem dX8_pass_27 : decode cX8_pass 27 = .ok (.istore_n 2, 1) := by decide +kernel
theorem dX8_pass_28 : decode cX8_pass 28 = .ok (.iload_n 2, 1) := by decide +kernel
theorem dX8_pass_29 : decode cX8_pass 29 = .ok (.ifCond .lt 32, 3) := by decide +kernel
theorem dX8_pass_32 : decode cX8_pass 32 = .ok (.aload_n 0, 1) := by decide +kernel
theorem dX8_pass_33 : decode cX8_pass 33 = .ok (.aload_n 0, 1) := by decide +kernel
theorem dX8_pass_34 : decode cX8_pass 34 = .ok (.getfield 19, 3) := by decide +kernel
theorem dX8_pass_37 : decode cX8_pass 37 = .ok (.iload_n 2, 1) := by decide +kernel
theorem dX8_pass_38 : decode cX8_pass 38 = .ok (.iaload, 1) := by decide +kernel
theorem dX8_pass_39 : decode cX8_pass 39 = .ok (.aload_n 0, 1) := by decide +kernel
theorem dX8_pass_40 : decode cX8_pass 40 = .ok (.getfield 22, 3) := by decide +kernel
theorem dX8_pass_43 : decode cX8_pass 43 = .ok (.iload_n 2, 1) := by decide +kernel
theorem dX8_pass_44 : decode cX8_pass 44 = .ok (.iaload, 1) := by decide +kernel
theorem dX8_pass_45 : decode cX8_pass 45 = .ok (.invokevirtual 203, 3) := by decide +kernel
theorem dX8_pass_48 : decode cX8_pass 48 = .ok (.aload_n 0, 1) := by decide +kernel
theorem dX8_pass_49 : decode cX8_pass 49 = .ok (.getfield 16, 3) := by decide +kernel
theorem dX8_pass_52 : decode cX8_pass 52 = .ok (.bipush 21, 2) := by decide +kernel
theorem dX8_pass_54 : decode cX8_pass 54 = .ok (.iload_n 1, 1) := by decide +kernel
theorem dX8_pass_55 : decode cX8_pass 55 = .ok (.iadd, 1) := by decide +kernel
theorem dX8_pass_56 : decode cX8_pass 56 = .ok (.iconst 0, 1) := by decide +kernel
theorem dX8_pass_57 : decode cX8_pass 57 = .ok (.iastore, 1) := by decide +kernel
theorem dX8_pass_58 : decode cX8_pass 58 = .ok (.goto 48, 3) := by decide +kernel
theorem dX8_pass_61 : decode cX8_pass 61 = .ok (.aload_n 0, 1) := by decide +kernel
theorem dX8_pass_62 : decode cX8_pass 62 = .ok (.getfield 16, 3) := by decide +kernel
theorem dX8_pass_65 : decode cX8_pass 65 = .ok (.bipush 21, 2) := by decide +kernel
theorem dX8_pass_67 : decode cX8_pass 67 = .ok (.iload_n 1, 1) := by decide +kernel
theorem dX8_pass_68 : decode cX8_pass 68 = .ok (.iadd, 1) := by decide +kernel
theorem dX8_pass_69 : decode cX8_pass 69 = .ok (.dup2, 1) := by decide +kernel
theorem dX8_pass_70 : decode cX8_pass 70 = .ok (.iaload, 1) := by decide +kernel
theorem dX8_pass_71 : decode cX8_pass 71 = .ok (.iconst 1, 1) := by decide +kernel
theorem dX8_pass_72 : decode cX8_pass 72 = .ok (.iadd, 1) := by decide +kernel
theorem dX8_pass_73 : decode cX8_pass 73 = .ok (.iastore, 1) := by decide +kernel
theorem dX8_pass_74 : decode cX8_pass 74 = .ok (.aload_n 0, 1) := by decide +kernel
theorem dX8_pass_75 : decode cX8_pass 75 = .ok (.getfield 16, 3) := by decide +kernel
theorem dX8_pass_78 : decode cX8_pass 78 = .ok (.bipush 26, 2) := by decide +kernel
theorem dX8_pass_80 : decode cX8_pass 80 = .ok (.iload_n 1, 1) := by decide +kernel
theorem dX8_pass_81 : decode cX8_pass 81 = .ok (.iadd, 1) := by decide +kernel
theorem dX8_pass_82 : decode cX8_pass 82 = .ok (.aload_n 0, 1) := by decide +kernel
theorem dX8_pass_83 : decode cX8_pass 83 = .ok (.getfield 16, 3) := by decide +kernel
theorem dX8_pass_86 : decode cX8_pass 86 = .ok (.bipush 21, 2) := by decide +kernel
theorem dX8_pass_88 : decode cX8_pass 88 = .ok (.iload_n 1, 1) := by decide +kernel
theorem dX8_pass_89 : decode cX8_pass 89 = .ok (.iadd, 1) := by decide +kernel
theorem dX8_pass_90 : decode cX8_pass 90 = .ok (.iaload, 1) := by decide +kernel
theorem dX8_pass_91 : decode cX8_pass 91 = .ok (.aload_n 0, 1) := by decide +kernel
theorem dX8_pass_92 : decode cX8_pass 92 = .ok (.getfield 7, 3) := by decide +kernel
theorem dX8_pass_95 : decode cX8_pass 95 = .ok (.iload_n 1, 1) := by decide +kernel
theorem dX8_pass_96 : decode cX8_pass 96 = .ok (.iaload, 1) := by decide +kernel
theorem dX8_pass_97 : decode cX8_pass 97 = .ok (.if_icmp .lt 7, 3) := by decide +kernel
theorem dX8_pass_100 : decode cX8_pass 100 = .ok (.iconst 1, 1) := by decide +kernel
theorem dX8_pass_101 : decode cX8_pass 101 = .ok (.goto 4, 3) := by decide +kernel
theorem dX8_pass_104 : decode cX8_pass 104 = .ok (.iconst 0, 1) := by decide +kernel
theorem dX8_pass_105 : decode cX8_pass 105 = .ok (.iastore, 1) := by decide +kernel
theorem dX8_pass_106 : decode cX8_pass 106 = .ok (.iinc 1 1, 3) := by decide +kernel
theorem dX8_pass_109 : decode cX8_pass 109 = .ok (.goto (-107), 3) := by decide +kernel
theorem dX8_pass_112 : decode cX8_pass 112 = .ok (.aload_n 0, 1) := by decide +kernel
theorem dX8_pass_113 : decode cX8_pass 113 = .ok (.getfield 16, 3) := by decide +kernel
theorem dX8_pass_116 : decode cX8_pass 116 = .ok (.bipush 31, 2) := by decide +kernel
theorem dX8_pass_118 : decode cX8_pass 118 = .ok (.dup2, 1) := by decide +kernel
theorem dX8_pass_119 : decode cX8_pass 119 = .ok (.iaload, 1) := by decide +kernel
theorem dX8_pass_120 : decode cX8_pass 120 = .ok (.iconst 1, 1) := by decide +kernel
theorem dX8_pass_121 : decode cX8_pass 121 = .ok (.iadd, 1) := by decide +kernel
theorem dX8_pass_122 : decode cX8_pass 122 = .ok (.iastore, 1) := by decide +kernel
theorem dX8_pass_123 : decode cX8_pass 123 = .ok (.return_, 1) := by decide +kernel
theorem dX8_hoursRefused_0 : decode cX8_hoursRefused 0 = .ok (.iload_n 1, 1) := by decide +kernel
theorem dX8_hoursRefused_1 : decode cX8_hoursRefused 1 = .ok (.i2l, 1) := by decide +kernel
theorem dX8_hoursRefused_2 : decode cX8_hoursRefused 2 = .ok (.lconst 1, 1) := by decide +kernel
theorem dX8_hoursRefused_3 : decode cX8_hoursRefused 3 = .ok (.ldc2_w 207, 3) := by decide +kernel
theorem dX8_hoursRefused_6 : decode cX8_hoursRefused 6 = .ok (.invokestatic 90, 3) := by decide +kernel
theorem dX8_hoursRefused_9 : decode cX8_hoursRefused 9 = .ok (.ifCond .ne 6, 3) := by decide +kernel
theorem dX8_hoursRefused_12 : decode cX8_hoursRefused 12 = .ok (.ldc 99, 2) := by decide +kernel
theorem dX8_hoursRefused_14 : decode cX8_hoursRefused 14 = .ok (.ireturn, 1) := by decide +kernel
theorem dX8_hoursRefused_15 : decode cX8_hoursRefused 15 = .ok (.aload_n 0, 1) := by decide +kernel
theorem dX8_hoursRefused_16 : decode cX8_hoursRefused 16 = .ok (.getfield 87, 3) := by decide +kernel
theorem dX8_hoursRefused_19 : decode cX8_hoursRefused 19 = .ok (.ifCond .ne 8, 3) := by decide +kernel
theorem dX8_hoursRefused_22 : decode cX8_hoursRefused 22 = .ok (.ldc 209, 2) := by decide +kernel
theorem dX8_hoursRefused_24 : decode cX8_hoursRefused 24 = .ok (.goto 22, 3) := by decide +kernel
theorem dX8_hoursRefused_27 : decode cX8_hoursRefused 27 = .ok (.aload_n 0, 1) := by decide +kernel
theorem dX8_hoursRefused_28 : decode cX8_hoursRefused 28 = .ok (.getfield 16, 3) := by decide +kernel
theorem dX8_hoursRefused_31 : decode cX8_hoursRefused 31 = .ok (.bipush 31, 2) := by decide +kernel
theorem dX8_hoursRefused_33 : decode cX8_hoursRefused 33 = .ok (.iaload, 1) := by decide +kernel
theorem dX8_hoursRefused_34 : decode cX8_hoursRefused 34 = .ok (.sipush 9000, 3) := by decide +kernel
theorem dX8_hoursRefused_37 : decode cX8_hoursRefused 37 = .ok (.if_icmp .le 8, 3) := by decide +kernel
theorem dX8_hoursRefused_40 : decode cX8_hoursRefused 40 = .ok (.ldc 103, 2) := by decide +kernel
theorem dX8_hoursRefused_42 : decode cX8_hoursRefused 42 = .ok (.goto 4, 3) := by decide +kernel
theorem dX8_hoursRefused_45 : decode cX8_hoursRefused 45 = .ok (.iconst 0, 1) := by decide +kernel
theorem dX8_hoursRefused_46 : decode cX8_hoursRefused 46 = .ok (.ireturn, 1) := by decide +kernel
theorem dX8_hour_0 : decode cX8_hour 0 = .ok (.aload_n 0, 1) := by decide +kernel
theorem dX8_hour_1 : decode cX8_hour 1 = .ok (.iload_n 1, 1) := by decide +kernel
theorem dX8_hour_2 : decode cX8_hour 2 = .ok (.invokevirtual 210, 3) := by decide +kernel
theorem dX8_hour_5 : decode cX8_hour 5 = .ok (.istore_n 2, 1) := by decide +kernel
theorem dX8_hour_6 : decode cX8_hour 6 = .ok (.iload_n 2, 1) := by decide +kernel
theorem dX8_hour_7 : decode cX8_hour 7 = .ok (.ifCond .eq 5, 3) := by decide +kernel
theorem dX8_hour_10 : decode cX8_hour 10 = .ok (.iload_n 2, 1) := by decide +kernel
theorem dX8_hour_11 : decode cX8_hour 11 = .ok (.ireturn, 1) := by decide +kernel
theorem dX8_hour_12 : decode cX8_hour 12 = .ok (.aload_n 0, 1) := by decide +kernel
theorem dX8_hour_13 : decode cX8_hour 13 = .ok (.invokevirtual 213, 3) := by decide +kernel
theorem dX8_hour_16 : decode cX8_hour 16 = .ok (.iconst 0, 1) := by decide +kernel
theorem dX8_hour_17 : decode cX8_hour 17 = .ok (.istore_n 3, 1) := by decide +kernel
theorem dX8_hour_18 : decode cX8_hour 18 = .ok (.iload_n 3, 1) := by decide +kernel
theorem dX8_hour_19 : decode cX8_hour 19 = .ok (.iload_n 1, 1) := by decide +kernel
theorem dX8_hour_20 : decode cX8_hour 20 = .ok (.if_icmp .ge 13, 3) := by decide +kernel
theorem dX8_hour_23 : decode cX8_hour 23 = .ok (.aload_n 0, 1) := by decide +kernel
theorem dX8_hour_24 : decode cX8_hour 24 = .ok (.invokevirtual 216, 3) := by decide +kernel
theorem dX8_hour_27 : decode cX8_hour 27 = .ok (.iinc 3 1, 3) := by decide +kernel
theorem dX8_hour_30 : decode cX8_hour 30 = .ok (.goto (-12), 3) := by decide +kernel
theorem dX8_hour_33 : decode cX8_hour 33 = .ok (.aload_n 0, 1) := by decide +kernel
theorem dX8_hour_34 : decode cX8_hour 34 = .ok (.getfield 16, 3) := by decide +kernel
theorem dX8_hour_37 : decode cX8_hour 37 = .ok (.bipush 31, 2) := by decide +kernel
theorem dX8_hour_39 : decode cX8_hour 39 = .ok (.iaload, 1) := by decide +kernel
theorem dX8_hour_40 : decode cX8_hour 40 = .ok (.ireturn, 1) := by decide +kernel
theorem dX8_canCome_0 : decode cX8_canCome 0 = .ok (.aload_n 0, 1) := by decide +kernel
theorem dX8_canCome_1 : decode cX8_canCome 1 = .ok (.getfield 16, 3) := by decide +kernel
theorem dX8_canCome_4 : decode cX8_canCome 4 = .ok (.bipush 26, 2) := by decide +kernel
theorem dX8_canCome_6 : decode cX8_canCome 6 = .ok (.iload_n 2, 1) := by decide +kernel
theorem dX8_canCome_7 : decode cX8_canCome 7 = .ok (.iadd, 1) := by decide +kernel
theorem dX8_canCome_8 : decode cX8_canCome 8 = .ok (.iaload, 1) := by decide +kernel
theorem dX8_canCome_9 : decode cX8_canCome 9 = .ok (.ifCond .ne 20, 3) := by decide +kernel
theorem dX8_canCome_12 : decode cX8_canCome 12 = .ok (.aload_n 0, 1) := by decide +kernel
theorem dX8_canCome_13 : decode cX8_canCome 13 = .ok (.getfield 16, 3) := by decide +kernel
theorem dX8_canCome_16 : decode cX8_canCome 16 = .ok (.bipush 7, 2) := by decide +kernel
theorem dX8_canCome_18 : decode cX8_canCome 18 = .ok (.iload_n 1, 1) := by decide +kernel
theorem dX8_canCome_19 : decode cX8_canCome 19 = .ok (.iadd, 1) := by decide +kernel
theorem dX8_canCome_20 : decode cX8_canCome 20 = .ok (.iaload, 1) := by decide +kernel
theorem dX8_canCome_21 : decode cX8_canCome 21 = .ok (.iload_n 2, 1) := by decide +kernel
theorem dX8_canCome_22 : decode cX8_canCome 22 = .ok (.if_icmp .eq 7, 3) := by decide +kernel
theorem dX8_canCome_25 : decode cX8_canCome 25 = .ok (.iconst 1, 1) := by decide +kernel
theorem dX8_canCome_26 : decode cX8_canCome 26 = .ok (.goto 4, 3) := by decide +kernel
theorem dX8_canCome_29 : decode cX8_canCome 29 = .ok (.iconst 0, 1) := by decide +kernel
theorem dX8_canCome_30 : decode cX8_canCome 30 = .ok (.ireturn, 1) := by decide +kernel
theorem dX8_come_0 : decode cX8_come 0 = .ok (.aload_n 0, 1) := by decide +kernel
theorem dX8_come_1 : decode cX8_come 1 = .ok (.iload_n 1, 1) := by decide +kernel
theorem dX8_come_2 : decode cX8_come 2 = .ok (.invokevirtual 187, 3) := by decide +kernel
theorem dX8_come_5 : decode cX8_come 5 = .ok (.ifCond .eq 11, 3) := by decide +kernel
theorem dX8_come_8 : decode cX8_come 8 = .ok (.aload_n 0, 1) := by decide +kernel
theorem dX8_come_9 : decode cX8_come 9 = .ok (.iload_n 2, 1) := by decide +kernel
theorem dX8_come_10 : decode cX8_come 10 = .ok (.invokevirtual 179, 3) := by decide +kernel
theorem dX8_come_13 : decode cX8_come 13 = .ok (.ifCond .ne 6, 3) := by decide +kernel
theorem dX8_come_16 : decode cX8_come 16 = .ok (.ldc 183, 2) := by decide +kernel
theorem dX8_come_18 : decode cX8_come 18 = .ok (.ireturn, 1) := by decide +kernel
theorem dX8_come_19 : decode cX8_come 19 = .ok (.aload_n 0, 1) := by decide +kernel
theorem dX8_come_20 : decode cX8_come 20 = .ok (.iload_n 1, 1) := by decide +kernel
theorem dX8_come_21 : decode cX8_come 21 = .ok (.iload_n 2, 1) := by decide +kernel
theorem dX8_come_22 : decode cX8_come 22 = .ok (.invokevirtual 219, 3) := by decide +kernel
theorem dX8_come_25 : decode cX8_come 25 = .ok (.ifCond .ne 6, 3) := by decide +kernel
theorem dX8_come_28 : decode cX8_come 28 = .ok (.ldc 209, 2) := by decide +kernel
theorem dX8_come_30 : decode cX8_come 30 = .ok (.ireturn, 1) := by decide +kernel
theorem dX8_come_31 : decode cX8_come 31 = .ok (.aload_n 0, 1) := by decide +kernel
theorem dX8_come_32 : decode cX8_come 32 = .ok (.invokevirtual 213, 3) := by decide +kernel
theorem dX8_come_35 : decode cX8_come 35 = .ok (.aload_n 0, 1) := by decide +kernel
theorem dX8_come_36 : decode cX8_come 36 = .ok (.getfield 16, 3) := by decide +kernel
theorem dX8_come_39 : decode cX8_come 39 = .ok (.bipush 7, 2) := by decide +kernel
theorem dX8_come_41 : decode cX8_come 41 = .ok (.iload_n 1, 1) := by decide +kernel
theorem dX8_come_42 : decode cX8_come 42 = .ok (.iadd, 1) := by decide +kernel
theorem dX8_come_43 : decode cX8_come 43 = .ok (.iload_n 2, 1) := by decide +kernel
theorem dX8_come_44 : decode cX8_come 44 = .ok (.iastore, 1) := by decide +kernel
theorem dX8_come_45 : decode cX8_come 45 = .ok (.aload_n 0, 1) := by decide +kernel
theorem dX8_come_46 : decode cX8_come 46 = .ok (.iload_n 2, 1) := by decide +kernel
theorem dX8_come_47 : decode cX8_come 47 = .ok (.invokevirtual 184, 3) := by decide +kernel
theorem dX8_come_50 : decode cX8_come 50 = .ok (.ireturn, 1) := by decide +kernel
theorem dX8_goOff_0 : decode cX8_goOff 0 = .ok (.aload_n 0, 1) := by decide +kernel
theorem dX8_goOff_1 : decode cX8_goOff 1 = .ok (.iload_n 1, 1) := by decide +kernel
theorem dX8_goOff_2 : decode cX8_goOff 2 = .ok (.invokevirtual 187, 3) := by decide +kernel
theorem dX8_goOff_5 : decode cX8_goOff 5 = .ok (.ifCond .ne 6, 3) := by decide +kernel
theorem dX8_goOff_8 : decode cX8_goOff 8 = .ok (.ldc 183, 2) := by decide +kernel
theorem dX8_goOff_10 : decode cX8_goOff 10 = .ok (.ireturn, 1) := by decide +kernel
theorem dX8_goOff_11 : decode cX8_goOff 11 = .ok (.aload_n 0, 1) := by decide +kernel
theorem dX8_goOff_12 : decode cX8_goOff 12 = .ok (.getfield 16, 3) := by decide +kernel
theorem dX8_goOff_15 : decode cX8_goOff 15 = .ok (.bipush 7, 2) := by decide +kernel
theorem dX8_goOff_17 : decode cX8_goOff 17 = .ok (.iload_n 1, 1) := by decide +kernel
theorem dX8_goOff_18 : decode cX8_goOff 18 = .ok (.iadd, 1) := by decide +kernel
theorem dX8_goOff_19 : decode cX8_goOff 19 = .ok (.iaload, 1) := by decide +kernel
theorem dX8_goOff_20 : decode cX8_goOff 20 = .ok (.ifCond .ge 6, 3) := by decide +kernel
theorem dX8_goOff_23 : decode cX8_goOff 23 = .ok (.ldc 209, 2) := by decide +kernel
theorem dX8_goOff_25 : decode cX8_goOff 25 = .ok (.ireturn, 1) := by decide +kernel
theorem dX8_goOff_26 : decode cX8_goOff 26 = .ok (.aload_n 0, 1) := by decide +kernel
theorem dX8_goOff_27 : decode cX8_goOff 27 = .ok (.invokevirtual 213, 3) := by decide +kernel
theorem dX8_goOff_30 : decode cX8_goOff 30 = .ok (.aload_n 0, 1) := by decide +kernel
theorem dX8_goOff_31 : decode cX8_goOff 31 = .ok (.getfield 16, 3) := by decide +kernel
theorem dX8_goOff_34 : decode cX8_goOff 34 = .ok (.bipush 7, 2) := by decide +kernel
theorem dX8_goOff_36 : decode cX8_goOff 36 = .ok (.iload_n 1, 1) := by decide +kernel
theorem dX8_goOff_37 : decode cX8_goOff 37 = .ok (.iadd, 1) := by decide +kernel
theorem dX8_goOff_38 : decode cX8_goOff 38 = .ok (.iaload, 1) := by decide +kernel
theorem dX8_goOff_39 : decode cX8_goOff 39 = .ok (.istore_n 2, 1) := by decide +kernel
theorem dX8_goOff_40 : decode cX8_goOff 40 = .ok (.aload_n 0, 1) := by decide +kernel
theorem dX8_goOff_41 : decode cX8_goOff 41 = .ok (.getfield 16, 3) := by decide +kernel
theorem dX8_goOff_44 : decode cX8_goOff 44 = .ok (.bipush 7, 2) := by decide +kernel
theorem dX8_goOff_46 : decode cX8_goOff 46 = .ok (.iload_n 1, 1) := by decide +kernel
theorem dX8_goOff_47 : decode cX8_goOff 47 = .ok (.iadd, 1) := by decide +kernel
theorem dX8_goOff_48 : decode cX8_goOff 48 = .ok (.iconst (-1), 1) := by decide +kernel
theorem dX8_goOff_49 : decode cX8_goOff 49 = .ok (.iastore, 1) := by decide +kernel
theorem dX8_goOff_50 : decode cX8_goOff 50 = .ok (.iload_n 2, 1) := by decide +kernel
theorem dX8_goOff_51 : decode cX8_goOff 51 = .ok (.ireturn, 1) := by decide +kernel
theorem dX8_hole_0 : decode cX8_hole 0 = .ok (.aload_n 0, 1) := by decide +kernel
theorem dX8_hole_1 : decode cX8_hole 1 = .ok (.iload_n 1, 1) := by decide +kernel
theorem dX8_hole_2 : decode cX8_hole 2 = .ok (.invokevirtual 187, 3) := by decide +kernel
theorem dX8_hole_5 : decode cX8_hole 5 = .ok (.ifCond .ne 6, 3) := by decide +kernel
theorem dX8_hole_8 : decode cX8_hole 8 = .ok (.ldc 183, 2) := by decide +kernel
theorem dX8_hole_10 : decode cX8_hole 10 = .ok (.ireturn, 1) := by decide +kernel
theorem dX8_hole_11 : decode cX8_hole 11 = .ok (.aload_n 0, 1) := by decide +kernel
theorem dX8_hole_12 : decode cX8_hole 12 = .ok (.getfield 16, 3) := by decide +kernel
theorem dX8_hole_15 : decode cX8_hole 15 = .ok (.bipush 7, 2) := by decide +kernel
theorem dX8_hole_17 : decode cX8_hole 17 = .ok (.iload_n 1, 1) := by decide +kernel
theorem dX8_hole_18 : decode cX8_hole 18 = .ok (.iadd, 1) := by decide +kernel
theorem dX8_hole_19 : decode cX8_hole 19 = .ok (.iaload, 1) := by decide +kernel
theorem dX8_hole_20 : decode cX8_hole 20 = .ok (.ifCond .lt 6, 3) := by decide +kernel
theorem dX8_hole_23 : decode cX8_hole 23 = .ok (.ldc 209, 2) := by decide +kernel
theorem dX8_hole_25 : decode cX8_hole 25 = .ok (.ireturn, 1) := by decide +kernel
theorem dX8_hole_26 : decode cX8_hole 26 = .ok (.aload_n 0, 1) := by decide +kernel
theorem dX8_hole_27 : decode cX8_hole 27 = .ok (.invokevirtual 213, 3) := by decide +kernel
theorem dX8_hole_30 : decode cX8_hole 30 = .ok (.aload_n 0, 1) := by decide +kernel
theorem dX8_hole_31 : decode cX8_hole 31 = .ok (.getfield 16, 3) := by decide +kernel
theorem dX8_hole_34 : decode cX8_hole 34 = .ok (.iload_n 1, 1) := by decide +kernel
theorem dX8_hole_35 : decode cX8_hole 35 = .ok (.iconst 1, 1) := by decide +kernel
theorem dX8_hole_36 : decode cX8_hole 36 = .ok (.aload_n 0, 1) := by decide +kernel
theorem dX8_hole_37 : decode cX8_hole 37 = .ok (.getfield 16, 3) := by decide +kernel
theorem dX8_hole_40 : decode cX8_hole 40 = .ok (.iload_n 1, 1) := by decide +kernel
theorem dX8_hole_41 : decode cX8_hole 41 = .ok (.iaload, 1) := by decide +kernel
theorem dX8_hole_42 : decode cX8_hole 42 = .ok (.isub, 1) := by decide +kernel
theorem dX8_hole_43 : decode cX8_hole 43 = .ok (.iastore, 1) := by decide +kernel
theorem dX8_hole_44 : decode cX8_hole 44 = .ok (.aload_n 0, 1) := by decide +kernel
theorem dX8_hole_45 : decode cX8_hole 45 = .ok (.getfield 16, 3) := by decide +kernel
theorem dX8_hole_48 : decode cX8_hole 48 = .ok (.bipush 33, 2) := by decide +kernel
theorem dX8_hole_50 : decode cX8_hole 50 = .ok (.dup2, 1) := by decide +kernel
theorem dX8_hole_51 : decode cX8_hole 51 = .ok (.iaload, 1) := by decide +kernel
theorem dX8_hole_52 : decode cX8_hole 52 = .ok (.iconst 1, 1) := by decide +kernel
theorem dX8_hole_53 : decode cX8_hole 53 = .ok (.iadd, 1) := by decide +kernel
theorem dX8_hole_54 : decode cX8_hole 54 = .ok (.iastore, 1) := by decide +kernel
theorem dX8_hole_55 : decode cX8_hole 55 = .ok (.aload_n 0, 1) := by decide +kernel
theorem dX8_hole_56 : decode cX8_hole 56 = .ok (.getfield 16, 3) := by decide +kernel
theorem dX8_hole_59 : decode cX8_hole 59 = .ok (.iload_n 1, 1) := by decide +kernel
theorem dX8_hole_60 : decode cX8_hole 60 = .ok (.iaload, 1) := by decide +kernel
theorem dX8_hole_61 : decode cX8_hole 61 = .ok (.ireturn, 1) := by decide +kernel
theorem dX8_oil_0 : decode cX8_oil 0 = .ok (.aload_n 0, 1) := by decide +kernel
theorem dX8_oil_1 : decode cX8_oil 1 = .ok (.iload_n 1, 1) := by decide +kernel
theorem dX8_oil_2 : decode cX8_oil 2 = .ok (.invokevirtual 179, 3) := by decide +kernel
theorem dX8_oil_5 : decode cX8_oil 5 = .ok (.ifCond .ne 6, 3) := by decide +kernel
theorem dX8_oil_8 : decode cX8_oil 8 = .ok (.ldc 183, 2) := by decide +kernel
theorem dX8_oil_10 : decode cX8_oil 10 = .ok (.ireturn, 1) := by decide +kernel
theorem dX8_oil_11 : decode cX8_oil 11 = .ok (.aload_n 0, 1) := by decide +kernel
theorem dX8_oil_12 : decode cX8_oil 12 = .ok (.invokevirtual 213, 3) := by decide +kernel
theorem dX8_oil_15 : decode cX8_oil 15 = .ok (.aload_n 0, 1) := by decide +kernel
theorem dX8_oil_16 : decode cX8_oil 16 = .ok (.getfield 16, 3) := by decide +kernel
theorem dX8_oil_19 : decode cX8_oil 19 = .ok (.bipush 26, 2) := by decide +kernel
theorem dX8_oil_21 : decode cX8_oil 21 = .ok (.iload_n 1, 1) := by decide +kernel
theorem dX8_oil_22 : decode cX8_oil 22 = .ok (.iadd, 1) := by decide +kernel
theorem dX8_oil_23 : decode cX8_oil 23 = .ok (.iaload, 1) := by decide +kernel
theorem dX8_oil_24 : decode cX8_oil 24 = .ok (.istore_n 2, 1) := by decide +kernel
theorem dX8_oil_25 : decode cX8_oil 25 = .ok (.aload_n 0, 1) := by decide +kernel
theorem dX8_oil_26 : decode cX8_oil 26 = .ok (.getfield 16, 3) := by decide +kernel
theorem dX8_oil_29 : decode cX8_oil 29 = .ok (.bipush 26, 2) := by decide +kernel
theorem dX8_oil_31 : decode cX8_oil 31 = .ok (.iload_n 1, 1) := by decide +kernel
theorem dX8_oil_32 : decode cX8_oil 32 = .ok (.iadd, 1) := by decide +kernel
theorem dX8_oil_33 : decode cX8_oil 33 = .ok (.iconst 0, 1) := by decide +kernel
theorem dX8_oil_34 : decode cX8_oil 34 = .ok (.iastore, 1) := by decide +kernel
theorem dX8_oil_35 : decode cX8_oil 35 = .ok (.aload_n 0, 1) := by decide +kernel
theorem dX8_oil_36 : decode cX8_oil 36 = .ok (.getfield 16, 3) := by decide +kernel
theorem dX8_oil_39 : decode cX8_oil 39 = .ok (.bipush 21, 2) := by decide +kernel
theorem dX8_oil_41 : decode cX8_oil 41 = .ok (.iload_n 1, 1) := by decide +kernel
theorem dX8_oil_42 : decode cX8_oil 42 = .ok (.iadd, 1) := by decide +kernel
theorem dX8_oil_43 : decode cX8_oil 43 = .ok (.iconst 0, 1) := by decide +kernel
theorem dX8_oil_44 : decode cX8_oil 44 = .ok (.iastore, 1) := by decide +kernel
theorem dX8_oil_45 : decode cX8_oil 45 = .ok (.iload_n 2, 1) := by decide +kernel
theorem dX8_oil_46 : decode cX8_oil 46 = .ok (.ireturn, 1) := by decide +kernel
theorem dX8_well_0 : decode cX8_well 0 = .ok (.aload_n 0, 1) := by decide +kernel
theorem dX8_well_1 : decode cX8_well 1 = .ok (.iload_n 1, 1) := by decide +kernel
theorem dX8_well_2 : decode cX8_well 2 = .ok (.invokevirtual 187, 3) := by decide +kernel
theorem dX8_well_5 : decode cX8_well 5 = .ok (.ifCond .ne 6, 3) := by decide +kernel
theorem dX8_well_8 : decode cX8_well 8 = .ok (.ldc 183, 2) := by decide +kernel
theorem dX8_well_10 : decode cX8_well 10 = .ok (.ireturn, 1) := by decide +kernel
theorem dX8_well_11 : decode cX8_well 11 = .ok (.aload_n 0, 1) := by decide +kernel
theorem dX8_well_12 : decode cX8_well 12 = .ok (.invokevirtual 213, 3) := by decide +kernel
theorem dX8_well_15 : decode cX8_well 15 = .ok (.aload_n 0, 1) := by decide +kernel
theorem dX8_well_16 : decode cX8_well 16 = .ok (.getfield 16, 3) := by decide +kernel
theorem dX8_well_19 : decode cX8_well 19 = .ok (.bipush 14, 2) := by decide +kernel
theorem dX8_well_21 : decode cX8_well 21 = .ok (.iload_n 1, 1) := by decide +kernel
theorem dX8_well_22 : decode cX8_well 22 = .ok (.iadd, 1) := by decide +kernel
theorem dX8_well_23 : decode cX8_well 23 = .ok (.iaload, 1) := by decide +kernel
theorem dX8_well_24 : decode cX8_well 24 = .ok (.istore_n 2, 1) := by decide +kernel
theorem dX8_well_25 : decode cX8_well 25 = .ok (.aload_n 0, 1) := by decide +kernel
theorem dX8_well_26 : decode cX8_well 26 = .ok (.getfield 16, 3) := by decide +kernel
theorem dX8_well_29 : decode cX8_well 29 = .ok (.bipush 14, 2) := by decide +kernel
theorem dX8_well_31 : decode cX8_well 31 = .ok (.iload_n 1, 1) := by decide +kernel
theorem dX8_well_32 : decode cX8_well 32 = .ok (.iadd, 1) := by decide +kernel
theorem dX8_well_33 : decode cX8_well 33 = .ok (.iconst 0, 1) := by decide +kernel
theorem dX8_well_34 : decode cX8_well 34 = .ok (.iastore, 1) := by decide +kernel
theorem dX8_well_35 : decode cX8_well 35 = .ok (.iload_n 2, 1) := by decide +kernel
theorem dX8_well_36 : decode cX8_well 36 = .ok (.ireturn, 1) := by decide +kernel
theorem dX8_draw_0 : decode cX8_draw 0 = .ok (.aload_n 0, 1) := by decide +kernel
theorem dX8_draw_1 : decode cX8_draw 1 = .ok (.aload_n 0, 1) := by decide +kernel
theorem dX8_draw_2 : decode cX8_draw 2 = .ok (.getfield 222, 3) := by decide +kernel
theorem dX8_draw_5 : decode cX8_draw 5 = .ok (.i2l, 1) := by decide +kernel
theorem dX8_draw_6 : decode cX8_draw 6 = .ok (.ldc2_w 225, 3) := by decide +kernel
theorem dX8_draw_9 : decode cX8_draw 9 = .ok (.lmul, 1) := by decide +kernel
theorem dX8_draw_10 : decode cX8_draw 10 = .ok (.ldc2_w 227, 3) := by decide +kernel
theorem dX8_draw_13 : decode cX8_draw 13 = .ok (.ladd, 1) := by decide +kernel
theorem dX8_draw_14 : decode cX8_draw 14 = .ok (.ldc2_w 229, 3) := by decide +kernel
theorem dX8_draw_17 : decode cX8_draw 17 = .ok (.lrem, 1) := by decide +kernel
theorem dX8_draw_18 : decode cX8_draw 18 = .ok (.l2i, 1) := by decide +kernel
theorem dX8_draw_19 : decode cX8_draw 19 = .ok (.putfield 222, 3) := by decide +kernel
theorem dX8_draw_22 : decode cX8_draw 22 = .ok (.aload_n 0, 1) := by decide +kernel
theorem dX8_draw_23 : decode cX8_draw 23 = .ok (.getfield 222, 3) := by decide +kernel
theorem dX8_draw_26 : decode cX8_draw 26 = .ok (.ldc 231, 2) := by decide +kernel
theorem dX8_draw_28 : decode cX8_draw 28 = .ok (.idiv, 1) := by decide +kernel
theorem dX8_draw_29 : decode cX8_draw 29 = .ok (.iload_n 1, 1) := by decide +kernel
theorem dX8_draw_30 : decode cX8_draw 30 = .ok (.irem, 1) := by decide +kernel
theorem dX8_draw_31 : decode cX8_draw 31 = .ok (.ireturn, 1) := by decide +kernel
theorem dX8_chance_0 : decode cX8_chance 0 = .ok (.aload_n 0, 1) := by decide +kernel
theorem dX8_chance_1 : decode cX8_chance 1 = .ok (.aload_n 0, 1) := by decide +kernel
theorem dX8_chance_2 : decode cX8_chance 2 = .ok (.getfield 94, 3) := by decide +kernel
theorem dX8_chance_5 : decode cX8_chance 5 = .ok (.invokevirtual 232, 3) := by decide +kernel
theorem dX8_chance_8 : decode cX8_chance 8 = .ok (.istore_n 1, 1) := by decide +kernel
theorem dX8_chance_9 : decode cX8_chance 9 = .ok (.aload_n 0, 1) := by decide +kernel
theorem dX8_chance_10 : decode cX8_chance 10 = .ok (.aload_n 0, 1) := by decide +kernel
theorem dX8_chance_11 : decode cX8_chance 11 = .ok (.getfield 87, 3) := by decide +kernel
theorem dX8_chance_14 : decode cX8_chance 14 = .ok (.invokevirtual 232, 3) := by decide +kernel
theorem dX8_chance_17 : decode cX8_chance 17 = .ok (.istore_n 2, 1) := by decide +kernel
theorem dX8_chance_18 : decode cX8_chance 18 = .ok (.aload_n 0, 1) := by decide +kernel
theorem dX8_chance_19 : decode cX8_chance 19 = .ok (.getfield 16, 3) := by decide +kernel
theorem dX8_chance_22 : decode cX8_chance 22 = .ok (.bipush 7, 2) := by decide +kernel
theorem dX8_chance_24 : decode cX8_chance 24 = .ok (.iload_n 1, 1) := by decide +kernel
theorem dX8_chance_25 : decode cX8_chance 25 = .ok (.iadd, 1) := by decide +kernel
theorem dX8_chance_26 : decode cX8_chance 26 = .ok (.aload_n 0, 1) := by decide +kernel
theorem dX8_chance_27 : decode cX8_chance 27 = .ok (.iload_n 1, 1) := by decide +kernel
theorem dX8_chance_28 : decode cX8_chance 28 = .ok (.iload_n 2, 1) := by decide +kernel
theorem dX8_chance_29 : decode cX8_chance 29 = .ok (.invokevirtual 219, 3) := by decide +kernel
theorem dX8_chance_32 : decode cX8_chance 32 = .ok (.ifCond .eq 7, 3) := by decide +kernel
theorem dX8_chance_35 : decode cX8_chance 35 = .ok (.iload_n 2, 1) := by decide +kernel
theorem dX8_chance_36 : decode cX8_chance 36 = .ok (.goto 12, 3) := by decide +kernel
theorem dX8_chance_39 : decode cX8_chance 39 = .ok (.aload_n 0, 1) := by decide +kernel
theorem dX8_chance_40 : decode cX8_chance 40 = .ok (.getfield 16, 3) := by decide +kernel
theorem dX8_chance_43 : decode cX8_chance 43 = .ok (.bipush 7, 2) := by decide +kernel
theorem dX8_chance_45 : decode cX8_chance 45 = .ok (.iload_n 1, 1) := by decide +kernel
theorem dX8_chance_46 : decode cX8_chance 46 = .ok (.iadd, 1) := by decide +kernel
theorem dX8_chance_47 : decode cX8_chance 47 = .ok (.iaload, 1) := by decide +kernel
theorem dX8_chance_48 : decode cX8_chance 48 = .ok (.iastore, 1) := by decide +kernel
theorem dX8_chance_49 : decode cX8_chance 49 = .ok (.return_, 1) := by decide +kernel
theorem dX8_drift_0 : decode cX8_drift 0 = .ok (.aload_n 0, 1) := by decide +kernel
theorem dX8_drift_1 : decode cX8_drift 1 = .ok (.iload_n 1, 1) := by decide +kernel
theorem dX8_drift_2 : decode cX8_drift 2 = .ok (.invokevirtual 210, 3) := by decide +kernel
theorem dX8_drift_5 : decode cX8_drift 5 = .ok (.istore_n 2, 1) := by decide +kernel
theorem dX8_drift_6 : decode cX8_drift 6 = .ok (.iload_n 2, 1) := by decide +kernel
theorem dX8_drift_7 : decode cX8_drift 7 = .ok (.ifCond .eq 5, 3) := by decide +kernel
theorem dX8_drift_10 : decode cX8_drift 10 = .ok (.iload_n 2, 1) := by decide +kernel
theorem dX8_drift_11 : decode cX8_drift 11 = .ok (.ireturn, 1) := by decide +kernel
theorem dX8_drift_12 : decode cX8_drift 12 = .ok (.aload_n 0, 1) := by decide +kernel
theorem dX8_drift_13 : decode cX8_drift 13 = .ok (.invokevirtual 213, 3) := by decide +kernel
theorem dX8_drift_16 : decode cX8_drift 16 = .ok (.iconst 0, 1) := by decide +kernel
theorem dX8_drift_17 : decode cX8_drift 17 = .ok (.istore_n 3, 1) := by decide +kernel
theorem dX8_drift_18 : decode cX8_drift 18 = .ok (.iload_n 3, 1) := by decide +kernel
theorem dX8_drift_19 : decode cX8_drift 19 = .ok (.iload_n 1, 1) := by decide +kernel
theorem dX8_drift_20 : decode cX8_drift 20 = .ok (.if_icmp .ge 24, 3) := by decide +kernel
theorem dX8_drift_23 : decode cX8_drift 23 = .ok (.aload_n 0, 1) := by decide +kernel
theorem dX8_drift_24 : decode cX8_drift 24 = .ok (.getfield 94, 3) := by decide +kernel
theorem dX8_drift_27 : decode cX8_drift 27 = .ok (.ifCond .le 7, 3) := by decide +kernel
theorem dX8_drift_30 : decode cX8_drift 30 = .ok (.aload_n 0, 1) := by decide +kernel
theorem dX8_drift_31 : decode cX8_drift 31 = .ok (.invokevirtual 235, 3) := by decide +kernel
theorem dX8_drift_34 : decode cX8_drift 34 = .ok (.aload_n 0, 1) := by decide +kernel
theorem dX8_drift_35 : decode cX8_drift 35 = .ok (.invokevirtual 216, 3) := by decide +kernel
theorem dX8_drift_38 : decode cX8_drift 38 = .ok (.iinc 3 1, 3) := by decide +kernel
theorem dX8_drift_41 : decode cX8_drift 41 = .ok (.goto (-23), 3) := by decide +kernel
theorem dX8_drift_44 : decode cX8_drift 44 = .ok (.aload_n 0, 1) := by decide +kernel
theorem dX8_drift_45 : decode cX8_drift 45 = .ok (.getfield 16, 3) := by decide +kernel
theorem dX8_drift_48 : decode cX8_drift 48 = .ok (.bipush 32, 2) := by decide +kernel
theorem dX8_drift_50 : decode cX8_drift 50 = .ok (.iaload, 1) := by decide +kernel
theorem dX8_drift_51 : decode cX8_drift 51 = .ok (.ireturn, 1) := by decide +kernel
theorem dX8_undo_0 : decode cX8_undo 0 = .ok (.aload_n 0, 1) := by decide +kernel
theorem dX8_undo_1 : decode cX8_undo 1 = .ok (.getfield 159, 3) := by decide +kernel
theorem dX8_undo_4 : decode cX8_undo 4 = .ok (.ifCond .ne 6, 3) := by decide +kernel
theorem dX8_undo_7 : decode cX8_undo 7 = .ok (.ldc 209, 2) := by decide +kernel
theorem dX8_undo_9 : decode cX8_undo 9 = .ok (.ireturn, 1) := by decide +kernel
theorem dX8_undo_10 : decode cX8_undo 10 = .ok (.aload_n 0, 1) := by decide +kernel
theorem dX8_undo_11 : decode cX8_undo 11 = .ok (.dup, 1) := by decide +kernel
theorem dX8_undo_12 : decode cX8_undo 12 = .ok (.getfield 159, 3) := by decide +kernel
theorem dX8_undo_15 : decode cX8_undo 15 = .ok (.iconst 1, 1) := by decide +kernel
theorem dX8_undo_16 : decode cX8_undo 16 = .ok (.isub, 1) := by decide +kernel
theorem dX8_undo_17 : decode cX8_undo 17 = .ok (.putfield 159, 3) := by decide +kernel
theorem dX8_undo_20 : decode cX8_undo 20 = .ok (.iconst 0, 1) := by decide +kernel
theorem dX8_undo_21 : decode cX8_undo 21 = .ok (.istore_n 1, 1) := by decide +kernel
theorem dX8_undo_22 : decode cX8_undo 22 = .ok (.iload_n 1, 1) := by decide +kernel
theorem dX8_undo_23 : decode cX8_undo 23 = .ok (.bipush 55, 2) := by decide +kernel
theorem dX8_undo_25 : decode cX8_undo 25 = .ok (.if_icmp .ge 29, 3) := by decide +kernel
theorem dX8_undo_28 : decode cX8_undo 28 = .ok (.aload_n 0, 1) := by decide +kernel
theorem dX8_undo_29 : decode cX8_undo 29 = .ok (.getfield 16, 3) := by decide +kernel
theorem dX8_undo_32 : decode cX8_undo 32 = .ok (.iload_n 1, 1) := by decide +kernel
theorem dX8_undo_33 : decode cX8_undo 33 = .ok (.aload_n 0, 1) := by decide +kernel
theorem dX8_undo_34 : decode cX8_undo 34 = .ok (.getfield 44, 3) := by decide +kernel
theorem dX8_undo_37 : decode cX8_undo 37 = .ok (.bipush 55, 2) := by decide +kernel
theorem dX8_undo_39 : decode cX8_undo 39 = .ok (.aload_n 0, 1) := by decide +kernel
theorem dX8_undo_40 : decode cX8_undo 40 = .ok (.getfield 159, 3) := by decide +kernel
theorem dX8_undo_43 : decode cX8_undo 43 = .ok (.imul, 1) := by decide +kernel
theorem dX8_undo_44 : decode cX8_undo 44 = .ok (.iload_n 1, 1) := by decide +kernel
theorem dX8_undo_45 : decode cX8_undo 45 = .ok (.iadd, 1) := by decide +kernel
theorem dX8_undo_46 : decode cX8_undo 46 = .ok (.iaload, 1) := by decide +kernel
theorem dX8_undo_47 : decode cX8_undo 47 = .ok (.iastore, 1) := by decide +kernel
theorem dX8_undo_48 : decode cX8_undo 48 = .ok (.iinc 1 1, 3) := by decide +kernel
theorem dX8_undo_51 : decode cX8_undo 51 = .ok (.goto (-29), 3) := by decide +kernel
theorem dX8_undo_54 : decode cX8_undo 54 = .ok (.aload_n 0, 1) := by decide +kernel
theorem dX8_undo_55 : decode cX8_undo 55 = .ok (.getfield 159, 3) := by decide +kernel
theorem dX8_undo_58 : decode cX8_undo 58 = .ok (.ireturn, 1) := by decide +kernel
theorem dX8_openGates_0 : decode cX8_openGates 0 = .ok (.aload_n 0, 1) := by decide +kernel
theorem dX8_openGates_1 : decode cX8_openGates 1 = .ok (.getfield 87, 3) := by decide +kernel
theorem dX8_openGates_4 : decode cX8_openGates 4 = .ok (.aload_n 0, 1) := by decide +kernel
theorem dX8_openGates_5 : decode cX8_openGates 5 = .ok (.invokevirtual 176, 3) := by decide +kernel
theorem dX8_openGates_8 : decode cX8_openGates 8 = .ok (.invokestatic 238, 3) := by decide +kernel
theorem dX8_openGates_11 : decode cX8_openGates 11 = .ok (.isub, 1) := by decide +kernel
theorem dX8_openGates_12 : decode cX8_openGates 12 = .ok (.ireturn, 1) := by decide +kernel
theorem dX8_pairBits_0 : decode cX8_pairBits 0 = .ok (.iload_n 1, 1) := by decide +kernel
theorem dX8_pairBits_1 : decode cX8_pairBits 1 = .ok (.bipush 21, 2) := by decide +kernel
theorem dX8_pairBits_3 : decode cX8_pairBits 3 = .ok (.if_icmp .ne 7, 3) := by decide +kernel
theorem dX8_pairBits_6 : decode cX8_pairBits 6 = .ok (.iconst 0, 1) := by decide +kernel
theorem dX8_pairBits_7 : decode cX8_pairBits 7 = .ok (.goto 20, 3) := by decide +kernel
theorem dX8_pairBits_10 : decode cX8_pairBits 10 = .ok (.iconst 1, 1) := by decide +kernel
theorem dX8_pairBits_11 : decode cX8_pairBits 11 = .ok (.aload_n 0, 1) := by decide +kernel
theorem dX8_pairBits_12 : decode cX8_pairBits 12 = .ok (.getfield 19, 3) := by decide +kernel
theorem dX8_pairBits_15 : decode cX8_pairBits 15 = .ok (.iload_n 1, 1) := by decide +kernel
theorem dX8_pairBits_16 : decode cX8_pairBits 16 = .ok (.iaload, 1) := by decide +kernel
theorem dX8_pairBits_17 : decode cX8_pairBits 17 = .ok (.ishl, 1) := by decide +kernel
theorem dX8_pairBits_18 : decode cX8_pairBits 18 = .ok (.iconst 1, 1) := by decide +kernel
theorem dX8_pairBits_19 : decode cX8_pairBits 19 = .ok (.aload_n 0, 1) := by decide +kernel
theorem dX8_pairBits_20 : decode cX8_pairBits 20 = .ok (.getfield 22, 3) := by decide +kernel
theorem dX8_pairBits_23 : decode cX8_pairBits 23 = .ok (.iload_n 1, 1) := by decide +kernel
theorem dX8_pairBits_24 : decode cX8_pairBits 24 = .ok (.iaload, 1) := by decide +kernel
theorem dX8_pairBits_25 : decode cX8_pairBits 25 = .ok (.ishl, 1) := by decide +kernel
theorem dX8_pairBits_26 : decode cX8_pairBits 26 = .ok (.ior, 1) := by decide +kernel
theorem dX8_pairBits_27 : decode cX8_pairBits 27 = .ok (.ireturn, 1) := by decide +kernel
theorem dX8_choose_0 : decode cX8_choose 0 = .ok (.aload_n 0, 1) := by decide +kernel
theorem dX8_choose_1 : decode cX8_choose 1 = .ok (.getfield 47, 3) := by decide +kernel
theorem dX8_choose_4 : decode cX8_choose 4 = .ok (.iconst 0, 1) := by decide +kernel
theorem dX8_choose_5 : decode cX8_choose 5 = .ok (.iload_n 1, 1) := by decide +kernel
theorem dX8_choose_6 : decode cX8_choose 6 = .ok (.sipush 484, 3) := by decide +kernel
theorem dX8_choose_9 : decode cX8_choose 9 = .ok (.idiv, 1) := by decide +kernel
theorem dX8_choose_10 : decode cX8_choose 10 = .ok (.iastore, 1) := by decide +kernel
theorem dX8_choose_11 : decode cX8_choose 11 = .ok (.aload_n 0, 1) := by decide +kernel
theorem dX8_choose_12 : decode cX8_choose 12 = .ok (.getfield 47, 3) := by decide +kernel
theorem dX8_choose_15 : decode cX8_choose 15 = .ok (.iconst 1, 1) := by decide +kernel
theorem dX8_choose_16 : decode cX8_choose 16 = .ok (.iload_n 1, 1) := by decide +kernel
theorem dX8_choose_17 : decode cX8_choose 17 = .ok (.bipush 22, 2) := by decide +kernel
theorem dX8_choose_19 : decode cX8_choose 19 = .ok (.idiv, 1) := by decide +kernel
end
section
theorem dX8_choose_20 : decode cX8_choose 20 = .ok (.bipush 22, 2) := by decide +kernel
theorem dX8_choose_22 : decode cX8_choose 22 = .ok (.irem, 1) := by decide +kernel
theorem dX8_choose_23 : decode cX8_choose 23 = .ok (.iastore, 1) := by decide +kernel
theorem dX8_choose_24 : decode cX8_choose 24 = .ok (.aload_n 0, 1) := by decide +kernel
theorem dX8_choose_25 : decode cX8_choose 25 = .ok (.getfield 47, 3) := by decide +kernel
theorem dX8_choose_28 : decode cX8_choose 28 = .ok (.iconst 2, 1) := by decide +kernel
theorem dX8_choose_29 : decode cX8_choose 29 = .ok (.iload_n 1, 1) := by decide +kernel
theorem dX8_choose_30 : decode cX8_choose 30 = .ok (.bipush 22, 2) := by decide +kernel
theorem dX8_choose_32 : decode cX8_choose 32 = .ok (.irem, 1) := by decide +kernel
theorem dX8_choose_33 : decode cX8_choose 33 = .ok (.iastore, 1) := by decide +kernel
theorem dX8_choose_34 : decode cX8_choose 34 = .ok (.iconst 0, 1) := by decide +kernel
theorem dX8_choose_35 : decode cX8_choose 35 = .ok (.istore_n 2, 1) := by decide +kernel
theorem dX8_choose_36 : decode cX8_choose 36 = .ok (.iconst 0, 1) := by decide +kernel
theorem dX8_choose_37 : decode cX8_choose 37 = .ok (.istore_n 3, 1) := by decide +kernel
theorem dX8_choose_38 : decode cX8_choose 38 = .ok (.iload_n 3, 1) := by decide +kernel
theorem dX8_choose_39 : decode cX8_choose 39 = .ok (.iconst 3, 1) := by decide +kernel
theorem dX8_choose_40 : decode cX8_choose 40 = .ok (.if_icmp .ge 139, 3) := by decide +kernel
theorem dX8_choose_43 : decode cX8_choose 43 = .ok (.aload_n 0, 1) := by decide +kernel
theorem dX8_choose_44 : decode cX8_choose 44 = .ok (.getfield 47, 3) := by decide +kernel
theorem dX8_choose_47 : decode cX8_choose 47 = .ok (.iload_n 3, 1) := by decide +kernel
theorem dX8_choose_48 : decode cX8_choose 48 = .ok (.iaload, 1) := by decide +kernel
theorem dX8_choose_49 : decode cX8_choose 49 = .ok (.istore 4, 2) := by decide +kernel
theorem dX8_choose_51 : decode cX8_choose 51 = .ok (.iload_n 3, 1) := by decide +kernel
theorem dX8_choose_52 : decode cX8_choose 52 = .ok (.ifCond .eq 23, 3) := by decide +kernel
theorem dX8_choose_55 : decode cX8_choose 55 = .ok (.iload 4, 2) := by decide +kernel
theorem dX8_choose_57 : decode cX8_choose 57 = .ok (.bipush 21, 2) := by decide +kernel
theorem dX8_choose_59 : decode cX8_choose 59 = .ok (.if_icmp .eq 16, 3) := by decide +kernel
theorem dX8_choose_62 : decode cX8_choose 62 = .ok (.aload_n 0, 1) := by decide +kernel
theorem dX8_choose_63 : decode cX8_choose 63 = .ok (.getfield 47, 3) := by decide +kernel
theorem dX8_choose_66 : decode cX8_choose 66 = .ok (.iload_n 3, 1) := by decide +kernel
theorem dX8_choose_67 : decode cX8_choose 67 = .ok (.iconst 1, 1) := by decide +kernel
theorem dX8_choose_68 : decode cX8_choose 68 = .ok (.isub, 1) := by decide +kernel
theorem dX8_choose_69 : decode cX8_choose 69 = .ok (.iaload, 1) := by decide +kernel
theorem dX8_choose_70 : decode cX8_choose 70 = .ok (.iload 4, 2) := by decide +kernel
theorem dX8_choose_72 : decode cX8_choose 72 = .ok (.if_icmp .ge 7, 3) := by decide +kernel
theorem dX8_choose_75 : decode cX8_choose 75 = .ok (.iconst 1, 1) := by decide +kernel
theorem dX8_choose_76 : decode cX8_choose 76 = .ok (.goto 4, 3) := by decide +kernel
theorem dX8_choose_79 : decode cX8_choose 79 = .ok (.iconst 0, 1) := by decide +kernel
theorem dX8_choose_80 : decode cX8_choose 80 = .ok (.istore 5, 2) := by decide +kernel
theorem dX8_choose_82 : decode cX8_choose 82 = .ok (.iload 4, 2) := by decide +kernel
theorem dX8_choose_84 : decode cX8_choose 84 = .ok (.bipush 21, 2) := by decide +kernel
theorem dX8_choose_86 : decode cX8_choose 86 = .ok (.if_icmp .ge 24, 3) := by decide +kernel
theorem dX8_choose_89 : decode cX8_choose 89 = .ok (.iload_n 3, 1) := by decide +kernel
theorem dX8_choose_90 : decode cX8_choose 90 = .ok (.ifCond .le 20, 3) := by decide +kernel
theorem dX8_choose_93 : decode cX8_choose 93 = .ok (.aload_n 0, 1) := by decide +kernel
theorem dX8_choose_94 : decode cX8_choose 94 = .ok (.getfield 47, 3) := by decide +kernel
theorem dX8_choose_97 : decode cX8_choose 97 = .ok (.iload_n 3, 1) := by decide +kernel
theorem dX8_choose_98 : decode cX8_choose 98 = .ok (.iconst 1, 1) := by decide +kernel
theorem dX8_choose_99 : decode cX8_choose 99 = .ok (.isub, 1) := by decide +kernel
theorem dX8_choose_100 : decode cX8_choose 100 = .ok (.iaload, 1) := by decide +kernel
theorem dX8_choose_101 : decode cX8_choose 101 = .ok (.bipush 21, 2) := by decide +kernel
theorem dX8_choose_103 : decode cX8_choose 103 = .ok (.if_icmp .ne 7, 3) := by decide +kernel
theorem dX8_choose_106 : decode cX8_choose 106 = .ok (.iconst 1, 1) := by decide +kernel
theorem dX8_choose_107 : decode cX8_choose 107 = .ok (.goto 4, 3) := by decide +kernel
theorem dX8_choose_110 : decode cX8_choose 110 = .ok (.iconst 0, 1) := by decide +kernel
theorem dX8_choose_111 : decode cX8_choose 111 = .ok (.istore 6, 2) := by decide +kernel
theorem dX8_choose_113 : decode cX8_choose 113 = .ok (.iload 5, 2) := by decide +kernel
theorem dX8_choose_115 : decode cX8_choose 115 = .ok (.ifCond .eq 47, 3) := by decide +kernel
theorem dX8_choose_118 : decode cX8_choose 118 = .ok (.iload 6, 2) := by decide +kernel
theorem dX8_choose_120 : decode cX8_choose 120 = .ok (.ifCond .ne 42, 3) := by decide +kernel
theorem dX8_choose_123 : decode cX8_choose 123 = .ok (.iload_n 2, 1) := by decide +kernel
theorem dX8_choose_124 : decode cX8_choose 124 = .ok (.aload_n 0, 1) := by decide +kernel
theorem dX8_choose_125 : decode cX8_choose 125 = .ok (.iload 4, 2) := by decide +kernel
theorem dX8_choose_127 : decode cX8_choose 127 = .ok (.invokevirtual 241, 3) := by decide +kernel
theorem dX8_choose_130 : decode cX8_choose 130 = .ok (.iand, 1) := by decide +kernel
theorem dX8_choose_131 : decode cX8_choose 131 = .ok (.ifCond .ne 31, 3) := by decide +kernel
theorem dX8_choose_134 : decode cX8_choose 134 = .ok (.iload 4, 2) := by decide +kernel
theorem dX8_choose_136 : decode cX8_choose 136 = .ok (.bipush 21, 2) := by decide +kernel
theorem dX8_choose_138 : decode cX8_choose 138 = .ok (.if_icmp .ge 26, 3) := by decide +kernel
theorem dX8_choose_141 : decode cX8_choose 141 = .ok (.aload_n 0, 1) := by decide +kernel
theorem dX8_choose_142 : decode cX8_choose 142 = .ok (.aload_n 0, 1) := by decide +kernel
theorem dX8_choose_143 : decode cX8_choose 143 = .ok (.getfield 19, 3) := by decide +kernel
theorem dX8_choose_146 : decode cX8_choose 146 = .ok (.iload 4, 2) := by decide +kernel
theorem dX8_choose_148 : decode cX8_choose 148 = .ok (.iaload, 1) := by decide +kernel
theorem dX8_choose_149 : decode cX8_choose 149 = .ok (.aload_n 0, 1) := by decide +kernel
theorem dX8_choose_150 : decode cX8_choose 150 = .ok (.getfield 22, 3) := by decide +kernel
theorem dX8_choose_153 : decode cX8_choose 153 = .ok (.iload 4, 2) := by decide +kernel
theorem dX8_choose_155 : decode cX8_choose 155 = .ok (.iaload, 1) := by decide +kernel
theorem dX8_choose_156 : decode cX8_choose 156 = .ok (.invokevirtual 162, 3) := by decide +kernel
theorem dX8_choose_159 : decode cX8_choose 159 = .ok (.ifCond .ne 5, 3) := by decide +kernel
theorem dX8_choose_162 : decode cX8_choose 162 = .ok (.iconst (-1), 1) := by decide +kernel
theorem dX8_choose_163 : decode cX8_choose 163 = .ok (.ireturn, 1) := by decide +kernel
theorem dX8_choose_164 : decode cX8_choose 164 = .ok (.iload_n 2, 1) := by decide +kernel
theorem dX8_choose_165 : decode cX8_choose 165 = .ok (.aload_n 0, 1) := by decide +kernel
theorem dX8_choose_166 : decode cX8_choose 166 = .ok (.iload 4, 2) := by decide +kernel
theorem dX8_choose_168 : decode cX8_choose 168 = .ok (.invokevirtual 241, 3) := by decide +kernel
theorem dX8_choose_171 : decode cX8_choose 171 = .ok (.ior, 1) := by decide +kernel
theorem dX8_choose_172 : decode cX8_choose 172 = .ok (.istore_n 2, 1) := by decide +kernel
theorem dX8_choose_173 : decode cX8_choose 173 = .ok (.iinc 3 1, 3) := by decide +kernel
theorem dX8_choose_176 : decode cX8_choose 176 = .ok (.goto (-138), 3) := by decide +kernel
theorem dX8_choose_179 : decode cX8_choose 179 = .ok (.iload_n 2, 1) := by decide +kernel
theorem dX8_choose_180 : decode cX8_choose 180 = .ok (.ireturn, 1) := by decide +kernel
theorem dX8_pairUp_0 : decode cX8_pairUp 0 = .ok (.iconst 1, 1) := by decide +kernel
theorem dX8_pairUp_1 : decode cX8_pairUp 1 = .ok (.istore_n 1, 1) := by decide +kernel
theorem dX8_pairUp_2 : decode cX8_pairUp 2 = .ok (.iconst 0, 1) := by decide +kernel
theorem dX8_pairUp_3 : decode cX8_pairUp 3 = .ok (.istore_n 2, 1) := by decide +kernel
theorem dX8_pairUp_4 : decode cX8_pairUp 4 = .ok (.iload_n 2, 1) := by decide +kernel
theorem dX8_pairUp_5 : decode cX8_pairUp 5 = .ok (.bipush 7, 2) := by decide +kernel
theorem dX8_pairUp_7 : decode cX8_pairUp 7 = .ok (.if_icmp .ge 17, 3) := by decide +kernel
theorem dX8_pairUp_10 : decode cX8_pairUp 10 = .ok (.aload_n 0, 1) := by decide +kernel
theorem dX8_pairUp_11 : decode cX8_pairUp 11 = .ok (.getfield 50, 3) := by decide +kernel
theorem dX8_pairUp_14 : decode cX8_pairUp 14 = .ok (.iload_n 2, 1) := by decide +kernel
theorem dX8_pairUp_15 : decode cX8_pairUp 15 = .ok (.bipush 7, 2) := by decide +kernel
theorem dX8_pairUp_17 : decode cX8_pairUp 17 = .ok (.iastore, 1) := by decide +kernel
theorem dX8_pairUp_18 : decode cX8_pairUp 18 = .ok (.iinc 2 1, 3) := by decide +kernel
theorem dX8_pairUp_21 : decode cX8_pairUp 21 = .ok (.goto (-17), 3) := by decide +kernel
theorem dX8_pairUp_24 : decode cX8_pairUp 24 = .ok (.iconst 0, 1) := by decide +kernel
theorem dX8_pairUp_25 : decode cX8_pairUp 25 = .ok (.istore_n 2, 1) := by decide +kernel
theorem dX8_pairUp_26 : decode cX8_pairUp 26 = .ok (.iload_n 2, 1) := by decide +kernel
theorem dX8_pairUp_27 : decode cX8_pairUp 27 = .ok (.iconst 3, 1) := by decide +kernel
theorem dX8_pairUp_28 : decode cX8_pairUp 28 = .ok (.if_icmp .ge 85, 3) := by decide +kernel
theorem dX8_pairUp_31 : decode cX8_pairUp 31 = .ok (.aload_n 0, 1) := by decide +kernel
theorem dX8_pairUp_32 : decode cX8_pairUp 32 = .ok (.getfield 47, 3) := by decide +kernel
theorem dX8_pairUp_35 : decode cX8_pairUp 35 = .ok (.iload_n 2, 1) := by decide +kernel
theorem dX8_pairUp_36 : decode cX8_pairUp 36 = .ok (.iaload, 1) := by decide +kernel
theorem dX8_pairUp_37 : decode cX8_pairUp 37 = .ok (.istore_n 3, 1) := by decide +kernel
theorem dX8_pairUp_38 : decode cX8_pairUp 38 = .ok (.iload_n 3, 1) := by decide +kernel
theorem dX8_pairUp_39 : decode cX8_pairUp 39 = .ok (.bipush 21, 2) := by decide +kernel
theorem dX8_pairUp_41 : decode cX8_pairUp 41 = .ok (.if_icmp .ge 66, 3) := by decide +kernel
theorem dX8_pairUp_44 : decode cX8_pairUp 44 = .ok (.aload_n 0, 1) := by decide +kernel
theorem dX8_pairUp_45 : decode cX8_pairUp 45 = .ok (.getfield 50, 3) := by decide +kernel
theorem dX8_pairUp_48 : decode cX8_pairUp 48 = .ok (.aload_n 0, 1) := by decide +kernel
theorem dX8_pairUp_49 : decode cX8_pairUp 49 = .ok (.getfield 19, 3) := by decide +kernel
theorem dX8_pairUp_52 : decode cX8_pairUp 52 = .ok (.iload_n 3, 1) := by decide +kernel
theorem dX8_pairUp_53 : decode cX8_pairUp 53 = .ok (.iaload, 1) := by decide +kernel
theorem dX8_pairUp_54 : decode cX8_pairUp 54 = .ok (.aload_n 0, 1) := by decide +kernel
theorem dX8_pairUp_55 : decode cX8_pairUp 55 = .ok (.getfield 22, 3) := by decide +kernel
theorem dX8_pairUp_58 : decode cX8_pairUp 58 = .ok (.iload_n 3, 1) := by decide +kernel
theorem dX8_pairUp_59 : decode cX8_pairUp 59 = .ok (.iaload, 1) := by decide +kernel
theorem dX8_pairUp_60 : decode cX8_pairUp 60 = .ok (.iastore, 1) := by decide +kernel
theorem dX8_pairUp_61 : decode cX8_pairUp 61 = .ok (.aload_n 0, 1) := by decide +kernel
theorem dX8_pairUp_62 : decode cX8_pairUp 62 = .ok (.getfield 50, 3) := by decide +kernel
theorem dX8_pairUp_65 : decode cX8_pairUp 65 = .ok (.aload_n 0, 1) := by decide +kernel
theorem dX8_pairUp_66 : decode cX8_pairUp 66 = .ok (.getfield 22, 3) := by decide +kernel
theorem dX8_pairUp_69 : decode cX8_pairUp 69 = .ok (.iload_n 3, 1) := by decide +kernel
theorem dX8_pairUp_70 : decode cX8_pairUp 70 = .ok (.iaload, 1) := by decide +kernel
theorem dX8_pairUp_71 : decode cX8_pairUp 71 = .ok (.aload_n 0, 1) := by decide +kernel
theorem dX8_pairUp_72 : decode cX8_pairUp 72 = .ok (.getfield 19, 3) := by decide +kernel
theorem dX8_pairUp_75 : decode cX8_pairUp 75 = .ok (.iload_n 3, 1) := by decide +kernel
theorem dX8_pairUp_76 : decode cX8_pairUp 76 = .ok (.iaload, 1) := by decide +kernel
theorem dX8_pairUp_77 : decode cX8_pairUp 77 = .ok (.iastore, 1) := by decide +kernel
theorem dX8_pairUp_78 : decode cX8_pairUp 78 = .ok (.iload_n 1, 1) := by decide +kernel
theorem dX8_pairUp_79 : decode cX8_pairUp 79 = .ok (.ifCond .eq 26, 3) := by decide +kernel
theorem dX8_pairUp_82 : decode cX8_pairUp 82 = .ok (.aload_n 0, 1) := by decide +kernel
theorem dX8_pairUp_83 : decode cX8_pairUp 83 = .ok (.aload_n 0, 1) := by decide +kernel
theorem dX8_pairUp_84 : decode cX8_pairUp 84 = .ok (.getfield 19, 3) := by decide +kernel
theorem dX8_pairUp_87 : decode cX8_pairUp 87 = .ok (.iload_n 3, 1) := by decide +kernel
theorem dX8_pairUp_88 : decode cX8_pairUp 88 = .ok (.iaload, 1) := by decide +kernel
theorem dX8_pairUp_89 : decode cX8_pairUp 89 = .ok (.aload_n 0, 1) := by decide +kernel
theorem dX8_pairUp_90 : decode cX8_pairUp 90 = .ok (.getfield 22, 3) := by decide +kernel
theorem dX8_pairUp_93 : decode cX8_pairUp 93 = .ok (.iload_n 3, 1) := by decide +kernel
theorem dX8_pairUp_94 : decode cX8_pairUp 94 = .ok (.iaload, 1) := by decide +kernel
theorem dX8_pairUp_95 : decode cX8_pairUp 95 = .ok (.invokevirtual 166, 3) := by decide +kernel
theorem dX8_pairUp_98 : decode cX8_pairUp 98 = .ok (.ifCond .eq 7, 3) := by decide +kernel
theorem dX8_pairUp_101 : decode cX8_pairUp 101 = .ok (.iconst 1, 1) := by decide +kernel
theorem dX8_pairUp_102 : decode cX8_pairUp 102 = .ok (.goto 4, 3) := by decide +kernel
theorem dX8_pairUp_105 : decode cX8_pairUp 105 = .ok (.iconst 0, 1) := by decide +kernel
theorem dX8_pairUp_106 : decode cX8_pairUp 106 = .ok (.istore_n 1, 1) := by decide +kernel
theorem dX8_pairUp_107 : decode cX8_pairUp 107 = .ok (.iinc 2 1, 3) := by decide +kernel
theorem dX8_pairUp_110 : decode cX8_pairUp 110 = .ok (.goto (-84), 3) := by decide +kernel
theorem dX8_pairUp_113 : decode cX8_pairUp 113 = .ok (.iload_n 1, 1) := by decide +kernel
theorem dX8_pairUp_114 : decode cX8_pairUp 114 = .ok (.ireturn, 1) := by decide +kernel
theorem dX8_isFirst_0 : decode cX8_isFirst 0 = .ok (.iconst 0, 1) := by decide +kernel
theorem dX8_isFirst_1 : decode cX8_isFirst 1 = .ok (.istore_n 1, 1) := by decide +kernel
theorem dX8_isFirst_2 : decode cX8_isFirst 2 = .ok (.iload_n 1, 1) := by decide +kernel
theorem dX8_isFirst_3 : decode cX8_isFirst 3 = .ok (.aload_n 0, 1) := by decide +kernel
theorem dX8_isFirst_4 : decode cX8_isFirst 4 = .ok (.getfield 94, 3) := by decide +kernel
theorem dX8_isFirst_7 : decode cX8_isFirst 7 = .ok (.if_icmp .ge 45, 3) := by decide +kernel
theorem dX8_isFirst_10 : decode cX8_isFirst 10 = .ok (.aload_n 0, 1) := by decide +kernel
theorem dX8_isFirst_11 : decode cX8_isFirst 11 = .ok (.getfield 50, 3) := by decide +kernel
theorem dX8_isFirst_14 : decode cX8_isFirst 14 = .ok (.iload_n 1, 1) := by decide +kernel
theorem dX8_isFirst_15 : decode cX8_isFirst 15 = .ok (.iaload, 1) := by decide +kernel
theorem dX8_isFirst_16 : decode cX8_isFirst 16 = .ok (.aload_n 0, 1) := by decide +kernel
theorem dX8_isFirst_17 : decode cX8_isFirst 17 = .ok (.getfield 53, 3) := by decide +kernel
theorem dX8_isFirst_20 : decode cX8_isFirst 20 = .ok (.iload_n 1, 1) := by decide +kernel
theorem dX8_isFirst_21 : decode cX8_isFirst 21 = .ok (.iaload, 1) := by decide +kernel
theorem dX8_isFirst_22 : decode cX8_isFirst 22 = .ok (.if_icmp .eq 24, 3) := by decide +kernel
theorem dX8_isFirst_25 : decode cX8_isFirst 25 = .ok (.aload_n 0, 1) := by decide +kernel
theorem dX8_isFirst_26 : decode cX8_isFirst 26 = .ok (.getfield 50, 3) := by decide +kernel
theorem dX8_isFirst_29 : decode cX8_isFirst 29 = .ok (.iload_n 1, 1) := by decide +kernel
theorem dX8_isFirst_30 : decode cX8_isFirst 30 = .ok (.iaload, 1) := by decide +kernel
theorem dX8_isFirst_31 : decode cX8_isFirst 31 = .ok (.aload_n 0, 1) := by decide +kernel
theorem dX8_isFirst_32 : decode cX8_isFirst 32 = .ok (.getfield 53, 3) := by decide +kernel
theorem dX8_isFirst_35 : decode cX8_isFirst 35 = .ok (.iload_n 1, 1) := by decide +kernel
theorem dX8_isFirst_36 : decode cX8_isFirst 36 = .ok (.iaload, 1) := by decide +kernel
theorem dX8_isFirst_37 : decode cX8_isFirst 37 = .ok (.if_icmp .ge 7, 3) := by decide +kernel
theorem dX8_isFirst_40 : decode cX8_isFirst 40 = .ok (.iconst 1, 1) := by decide +kernel
theorem dX8_isFirst_41 : decode cX8_isFirst 41 = .ok (.goto 4, 3) := by decide +kernel
theorem dX8_isFirst_44 : decode cX8_isFirst 44 = .ok (.iconst 0, 1) := by decide +kernel
theorem dX8_isFirst_45 : decode cX8_isFirst 45 = .ok (.ireturn, 1) := by decide +kernel
theorem dX8_isFirst_46 : decode cX8_isFirst 46 = .ok (.iinc 1 1, 3) := by decide +kernel
theorem dX8_isFirst_49 : decode cX8_isFirst 49 = .ok (.goto (-47), 3) := by decide +kernel
theorem dX8_isFirst_52 : decode cX8_isFirst 52 = .ok (.iconst 0, 1) := by decide +kernel
theorem dX8_isFirst_53 : decode cX8_isFirst 53 = .ok (.ireturn, 1) := by decide +kernel
theorem dX8_findAtOnce_0 : decode cX8_findAtOnce 0 = .ok (.aload_n 0, 1) := by decide +kernel
theorem dX8_findAtOnce_1 : decode cX8_findAtOnce 1 = .ok (.iconst (-1), 1) := by decide +kernel
theorem dX8_findAtOnce_2 : decode cX8_findAtOnce 2 = .ok (.putfield 244, 3) := by decide +kernel
theorem dX8_findAtOnce_5 : decode cX8_findAtOnce 5 = .ok (.aload_n 0, 1) := by decide +kernel
theorem dX8_findAtOnce_6 : decode cX8_findAtOnce 6 = .ok (.iconst 0, 1) := by decide +kernel
theorem dX8_findAtOnce_7 : decode cX8_findAtOnce 7 = .ok (.putfield 247, 3) := by decide +kernel
theorem dX8_findAtOnce_10 : decode cX8_findAtOnce 10 = .ok (.aload_n 0, 1) := by decide +kernel
theorem dX8_findAtOnce_11 : decode cX8_findAtOnce 11 = .ok (.invokevirtual 250, 3) := by decide +kernel
theorem dX8_findAtOnce_14 : decode cX8_findAtOnce 14 = .ok (.istore_n 1, 1) := by decide +kernel
theorem dX8_findAtOnce_15 : decode cX8_findAtOnce 15 = .ok (.iconst 0, 1) := by decide +kernel
theorem dX8_findAtOnce_16 : decode cX8_findAtOnce 16 = .ok (.istore_n 2, 1) := by decide +kernel
theorem dX8_findAtOnce_17 : decode cX8_findAtOnce 17 = .ok (.iload_n 2, 1) := by decide +kernel
theorem dX8_findAtOnce_18 : decode cX8_findAtOnce 18 = .ok (.sipush 10648, 3) := by decide +kernel
theorem dX8_findAtOnce_21 : decode cX8_findAtOnce 21 = .ok (.if_icmp .ge 206, 3) := by decide +kernel
theorem dX8_findAtOnce_24 : decode cX8_findAtOnce 24 = .ok (.aload_n 0, 1) := by decide +kernel
theorem dX8_findAtOnce_25 : decode cX8_findAtOnce 25 = .ok (.iload_n 2, 1) := by decide +kernel
theorem dX8_findAtOnce_26 : decode cX8_findAtOnce 26 = .ok (.invokevirtual 253, 3) := by decide +kernel
theorem dX8_findAtOnce_29 : decode cX8_findAtOnce 29 = .ok (.istore_n 3, 1) := by decide +kernel
theorem dX8_findAtOnce_30 : decode cX8_findAtOnce 30 = .ok (.iload_n 3, 1) := by decide +kernel
theorem dX8_findAtOnce_31 : decode cX8_findAtOnce 31 = .ok (.ifCond .ge 7, 3) := by decide +kernel
theorem dX8_findAtOnce_34 : decode cX8_findAtOnce 34 = .ok (.iconst (-1), 1) := by decide +kernel
theorem dX8_findAtOnce_35 : decode cX8_findAtOnce 35 = .ok (.goto 9, 3) := by decide +kernel
theorem dX8_findAtOnce_38 : decode cX8_findAtOnce 38 = .ok (.iload_n 3, 1) := by decide +kernel
theorem dX8_findAtOnce_39 : decode cX8_findAtOnce 39 = .ok (.invokestatic 238, 3) := by decide +kernel
theorem dX8_findAtOnce_42 : decode cX8_findAtOnce 42 = .ok (.iconst 2, 1) := by decide +kernel
theorem dX8_findAtOnce_43 : decode cX8_findAtOnce 43 = .ok (.idiv, 1) := by decide +kernel
theorem dX8_findAtOnce_44 : decode cX8_findAtOnce 44 = .ok (.istore 4, 2) := by decide +kernel
theorem dX8_findAtOnce_46 : decode cX8_findAtOnce 46 = .ok (.iload 4, 2) := by decide +kernel
theorem dX8_findAtOnce_48 : decode cX8_findAtOnce 48 = .ok (.ifCond .lt 173, 3) := by decide +kernel
theorem dX8_findAtOnce_51 : decode cX8_findAtOnce 51 = .ok (.iload 4, 2) := by decide +kernel
theorem dX8_findAtOnce_53 : decode cX8_findAtOnce 53 = .ok (.iload_n 1, 1) := by decide +kernel
theorem dX8_findAtOnce_54 : decode cX8_findAtOnce 54 = .ok (.if_icmp .gt 167, 3) := by decide +kernel
theorem dX8_findAtOnce_57 : decode cX8_findAtOnce 57 = .ok (.iload 4, 2) := by decide +kernel
theorem dX8_findAtOnce_59 : decode cX8_findAtOnce 59 = .ok (.aload_n 0, 1) := by decide +kernel
theorem dX8_findAtOnce_60 : decode cX8_findAtOnce 60 = .ok (.getfield 244, 3) := by decide +kernel
theorem dX8_findAtOnce_63 : decode cX8_findAtOnce 63 = .ok (.if_icmp .lt 158, 3) := by decide +kernel
theorem dX8_findAtOnce_66 : decode cX8_findAtOnce 66 = .ok (.aload_n 0, 1) := by decide +kernel
theorem dX8_findAtOnce_67 : decode cX8_findAtOnce 67 = .ok (.invokevirtual 256, 3) := by decide +kernel
theorem dX8_findAtOnce_70 : decode cX8_findAtOnce 70 = .ok (.ifCond .eq 151, 3) := by decide +kernel
theorem dX8_findAtOnce_73 : decode cX8_findAtOnce 73 = .ok (.iconst 0, 1) := by decide +kernel
theorem dX8_findAtOnce_74 : decode cX8_findAtOnce 74 = .ok (.istore 5, 2) := by decide +kernel
theorem dX8_findAtOnce_76 : decode cX8_findAtOnce 76 = .ok (.iconst 0, 1) := by decide +kernel
theorem dX8_findAtOnce_77 : decode cX8_findAtOnce 77 = .ok (.istore 6, 2) := by decide +kernel
theorem dX8_findAtOnce_79 : decode cX8_findAtOnce 79 = .ok (.iload 6, 2) := by decide +kernel
theorem dX8_findAtOnce_81 : decode cX8_findAtOnce 81 = .ok (.aload_n 0, 1) := by decide +kernel
theorem dX8_findAtOnce_82 : decode cX8_findAtOnce 82 = .ok (.getfield 94, 3) := by decide +kernel
theorem dX8_findAtOnce_85 : decode cX8_findAtOnce 85 = .ok (.if_icmp .ge 48, 3) := by decide +kernel
theorem dX8_findAtOnce_88 : decode cX8_findAtOnce 88 = .ok (.iload 5, 2) := by decide +kernel
theorem dX8_findAtOnce_90 : decode cX8_findAtOnce 90 = .ok (.aload_n 0, 1) := by decide +kernel
theorem dX8_findAtOnce_91 : decode cX8_findAtOnce 91 = .ok (.getfield 50, 3) := by decide +kernel
theorem dX8_findAtOnce_94 : decode cX8_findAtOnce 94 = .ok (.iload 6, 2) := by decide +kernel
theorem dX8_findAtOnce_96 : decode cX8_findAtOnce 96 = .ok (.iaload, 1) := by decide +kernel
theorem dX8_findAtOnce_97 : decode cX8_findAtOnce 97 = .ok (.bipush 7, 2) := by decide +kernel
theorem dX8_findAtOnce_99 : decode cX8_findAtOnce 99 = .ok (.if_icmp .ge 24, 3) := by decide +kernel
theorem dX8_findAtOnce_102 : decode cX8_findAtOnce 102 = .ok (.aload_n 0, 1) := by decide +kernel
theorem dX8_findAtOnce_103 : decode cX8_findAtOnce 103 = .ok (.getfield 13, 3) := by decide +kernel
theorem dX8_findAtOnce_106 : decode cX8_findAtOnce 106 = .ok (.bipush 7, 2) := by decide +kernel
theorem dX8_findAtOnce_108 : decode cX8_findAtOnce 108 = .ok (.iload 6, 2) := by decide +kernel
theorem dX8_findAtOnce_110 : decode cX8_findAtOnce 110 = .ok (.imul, 1) := by decide +kernel
theorem dX8_findAtOnce_111 : decode cX8_findAtOnce 111 = .ok (.aload_n 0, 1) := by decide +kernel
theorem dX8_findAtOnce_112 : decode cX8_findAtOnce 112 = .ok (.getfield 50, 3) := by decide +kernel
theorem dX8_findAtOnce_115 : decode cX8_findAtOnce 115 = .ok (.iload 6, 2) := by decide +kernel
theorem dX8_findAtOnce_117 : decode cX8_findAtOnce 117 = .ok (.iaload, 1) := by decide +kernel
theorem dX8_findAtOnce_118 : decode cX8_findAtOnce 118 = .ok (.iadd, 1) := by decide +kernel
theorem dX8_findAtOnce_119 : decode cX8_findAtOnce 119 = .ok (.iaload, 1) := by decide +kernel
theorem dX8_findAtOnce_120 : decode cX8_findAtOnce 120 = .ok (.goto 4, 3) := by decide +kernel
theorem dX8_findAtOnce_123 : decode cX8_findAtOnce 123 = .ok (.iconst 0, 1) := by decide +kernel
theorem dX8_findAtOnce_124 : decode cX8_findAtOnce 124 = .ok (.iadd, 1) := by decide +kernel
theorem dX8_findAtOnce_125 : decode cX8_findAtOnce 125 = .ok (.istore 5, 2) := by decide +kernel
theorem dX8_findAtOnce_127 : decode cX8_findAtOnce 127 = .ok (.iinc 6 1, 3) := by decide +kernel
theorem dX8_findAtOnce_130 : decode cX8_findAtOnce 130 = .ok (.goto (-51), 3) := by decide +kernel
theorem dX8_findAtOnce_133 : decode cX8_findAtOnce 133 = .ok (.iload 4, 2) := by decide +kernel
theorem dX8_findAtOnce_135 : decode cX8_findAtOnce 135 = .ok (.aload_n 0, 1) := by decide +kernel
theorem dX8_findAtOnce_136 : decode cX8_findAtOnce 136 = .ok (.getfield 244, 3) := by decide +kernel
theorem dX8_findAtOnce_139 : decode cX8_findAtOnce 139 = .ok (.if_icmp .gt 12, 3) := by decide +kernel
theorem dX8_findAtOnce_142 : decode cX8_findAtOnce 142 = .ok (.iload 5, 2) := by decide +kernel
theorem dX8_findAtOnce_144 : decode cX8_findAtOnce 144 = .ok (.aload_n 0, 1) := by decide +kernel
theorem dX8_findAtOnce_145 : decode cX8_findAtOnce 145 = .ok (.getfield 247, 3) := by decide +kernel
theorem dX8_findAtOnce_148 : decode cX8_findAtOnce 148 = .ok (.if_icmp .le 7, 3) := by decide +kernel
theorem dX8_findAtOnce_151 : decode cX8_findAtOnce 151 = .ok (.iconst 1, 1) := by decide +kernel
theorem dX8_findAtOnce_152 : decode cX8_findAtOnce 152 = .ok (.goto 4, 3) := by decide +kernel
theorem dX8_findAtOnce_155 : decode cX8_findAtOnce 155 = .ok (.iconst 0, 1) := by decide +kernel
theorem dX8_findAtOnce_156 : decode cX8_findAtOnce 156 = .ok (.istore 6, 2) := by decide +kernel
theorem dX8_findAtOnce_158 : decode cX8_findAtOnce 158 = .ok (.iload 6, 2) := by decide +kernel
theorem dX8_findAtOnce_160 : decode cX8_findAtOnce 160 = .ok (.ifCond .ne 19, 3) := by decide +kernel
theorem dX8_findAtOnce_163 : decode cX8_findAtOnce 163 = .ok (.iload 5, 2) := by decide +kernel
theorem dX8_findAtOnce_165 : decode cX8_findAtOnce 165 = .ok (.aload_n 0, 1) := by decide +kernel
theorem dX8_findAtOnce_166 : decode cX8_findAtOnce 166 = .ok (.getfield 247, 3) := by decide +kernel
theorem dX8_findAtOnce_169 : decode cX8_findAtOnce 169 = .ok (.if_icmp .ne 52, 3) := by decide +kernel
theorem dX8_findAtOnce_172 : decode cX8_findAtOnce 172 = .ok (.aload_n 0, 1) := by decide +kernel
theorem dX8_findAtOnce_173 : decode cX8_findAtOnce 173 = .ok (.invokevirtual 260, 3) := by decide +kernel
theorem dX8_findAtOnce_176 : decode cX8_findAtOnce 176 = .ok (.ifCond .eq 45, 3) := by decide +kernel
theorem dX8_findAtOnce_179 : decode cX8_findAtOnce 179 = .ok (.aload_n 0, 1) := by decide +kernel
theorem dX8_findAtOnce_180 : decode cX8_findAtOnce 180 = .ok (.iload 4, 2) := by decide +kernel
theorem dX8_findAtOnce_182 : decode cX8_findAtOnce 182 = .ok (.putfield 244, 3) := by decide +kernel
theorem dX8_findAtOnce_185 : decode cX8_findAtOnce 185 = .ok (.aload_n 0, 1) := by decide +kernel
theorem dX8_findAtOnce_186 : decode cX8_findAtOnce 186 = .ok (.iload 5, 2) := by decide +kernel
theorem dX8_findAtOnce_188 : decode cX8_findAtOnce 188 = .ok (.putfield 247, 3) := by decide +kernel
theorem dX8_findAtOnce_191 : decode cX8_findAtOnce 191 = .ok (.iconst 0, 1) := by decide +kernel
theorem dX8_findAtOnce_192 : decode cX8_findAtOnce 192 = .ok (.istore 7, 2) := by decide +kernel
theorem dX8_findAtOnce_194 : decode cX8_findAtOnce 194 = .ok (.iload 7, 2) := by decide +kernel
theorem dX8_findAtOnce_196 : decode cX8_findAtOnce 196 = .ok (.bipush 7, 2) := by decide +kernel
theorem dX8_findAtOnce_198 : decode cX8_findAtOnce 198 = .ok (.if_icmp .ge 23, 3) := by decide +kernel
theorem dX8_findAtOnce_201 : decode cX8_findAtOnce 201 = .ok (.aload_n 0, 1) := by decide +kernel
theorem dX8_findAtOnce_202 : decode cX8_findAtOnce 202 = .ok (.getfield 53, 3) := by decide +kernel
theorem dX8_findAtOnce_205 : decode cX8_findAtOnce 205 = .ok (.iload 7, 2) := by decide +kernel
theorem dX8_findAtOnce_207 : decode cX8_findAtOnce 207 = .ok (.aload_n 0, 1) := by decide +kernel
theorem dX8_findAtOnce_208 : decode cX8_findAtOnce 208 = .ok (.getfield 50, 3) := by decide +kernel
theorem dX8_findAtOnce_211 : decode cX8_findAtOnce 211 = .ok (.iload 7, 2) := by decide +kernel
theorem dX8_findAtOnce_213 : decode cX8_findAtOnce 213 = .ok (.iaload, 1) := by decide +kernel
theorem dX8_findAtOnce_214 : decode cX8_findAtOnce 214 = .ok (.iastore, 1) := by decide +kernel
theorem dX8_findAtOnce_215 : decode cX8_findAtOnce 215 = .ok (.iinc 7 1, 3) := by decide +kernel
theorem dX8_findAtOnce_218 : decode cX8_findAtOnce 218 = .ok (.goto (-24), 3) := by decide +kernel
theorem dX8_findAtOnce_221 : decode cX8_findAtOnce 221 = .ok (.iinc 2 1, 3) := by decide +kernel
theorem dX8_findAtOnce_224 : decode cX8_findAtOnce 224 = .ok (.goto (-207), 3) := by decide +kernel
theorem dX8_findAtOnce_227 : decode cX8_findAtOnce 227 = .ok (.return_, 1) := by decide +kernel
theorem dX8_atOnce_0 : decode cX8_atOnce 0 = .ok (.iload_n 1, 1) := by decide +kernel
theorem dX8_atOnce_1 : decode cX8_atOnce 1 = .ok (.iconst (-1), 1) := by decide +kernel
theorem dX8_atOnce_2 : decode cX8_atOnce 2 = .ok (.if_icmp .eq 20, 3) := by decide +kernel
theorem dX8_atOnce_5 : decode cX8_atOnce 5 = .ok (.iload_n 1, 1) := by decide +kernel
theorem dX8_atOnce_6 : decode cX8_atOnce 6 = .ok (.bipush (-2), 2) := by decide +kernel
theorem dX8_atOnce_8 : decode cX8_atOnce 8 = .ok (.if_icmp .eq 14, 3) := by decide +kernel
theorem dX8_atOnce_11 : decode cX8_atOnce 11 = .ok (.aload_n 0, 1) := by decide +kernel
theorem dX8_atOnce_12 : decode cX8_atOnce 12 = .ok (.iload_n 1, 1) := by decide +kernel
theorem dX8_atOnce_13 : decode cX8_atOnce 13 = .ok (.invokevirtual 187, 3) := by decide +kernel
theorem dX8_atOnce_16 : decode cX8_atOnce 16 = .ok (.ifCond .ne 6, 3) := by decide +kernel
theorem dX8_atOnce_19 : decode cX8_atOnce 19 = .ok (.ldc 183, 2) := by decide +kernel
theorem dX8_atOnce_21 : decode cX8_atOnce 21 = .ok (.ireturn, 1) := by decide +kernel
theorem dX8_atOnce_22 : decode cX8_atOnce 22 = .ok (.aload_n 0, 1) := by decide +kernel
theorem dX8_atOnce_23 : decode cX8_atOnce 23 = .ok (.invokevirtual 263, 3) := by decide +kernel
theorem dX8_atOnce_26 : decode cX8_atOnce 26 = .ok (.iload_n 1, 1) := by decide +kernel
theorem dX8_atOnce_27 : decode cX8_atOnce 27 = .ok (.iconst (-1), 1) := by decide +kernel
theorem dX8_atOnce_28 : decode cX8_atOnce 28 = .ok (.if_icmp .ne 10, 3) := by decide +kernel
theorem dX8_atOnce_31 : decode cX8_atOnce 31 = .ok (.aload_n 0, 1) := by decide +kernel
theorem dX8_atOnce_32 : decode cX8_atOnce 32 = .ok (.getfield 244, 3) := by decide +kernel
theorem dX8_atOnce_35 : decode cX8_atOnce 35 = .ok (.goto 37, 3) := by decide +kernel
theorem dX8_atOnce_38 : decode cX8_atOnce 38 = .ok (.iload_n 1, 1) := by decide +kernel
theorem dX8_atOnce_39 : decode cX8_atOnce 39 = .ok (.bipush (-2), 2) := by decide +kernel
theorem dX8_atOnce_41 : decode cX8_atOnce 41 = .ok (.if_icmp .ne 10, 3) := by decide +kernel
theorem dX8_atOnce_44 : decode cX8_atOnce 44 = .ok (.aload_n 0, 1) := by decide +kernel
theorem dX8_atOnce_45 : decode cX8_atOnce 45 = .ok (.getfield 247, 3) := by decide +kernel
theorem dX8_atOnce_48 : decode cX8_atOnce 48 = .ok (.goto 24, 3) := by decide +kernel
theorem dX8_atOnce_51 : decode cX8_atOnce 51 = .ok (.aload_n 0, 1) := by decide +kernel
theorem dX8_atOnce_52 : decode cX8_atOnce 52 = .ok (.getfield 53, 3) := by decide +kernel
theorem dX8_atOnce_55 : decode cX8_atOnce 55 = .ok (.iload_n 1, 1) := by decide +kernel
theorem dX8_atOnce_56 : decode cX8_atOnce 56 = .ok (.iaload, 1) := by decide +kernel
theorem dX8_atOnce_57 : decode cX8_atOnce 57 = .ok (.bipush 7, 2) := by decide +kernel
theorem dX8_atOnce_59 : decode cX8_atOnce 59 = .ok (.if_icmp .ne 7, 3) := by decide +kernel
theorem dX8_atOnce_62 : decode cX8_atOnce 62 = .ok (.iconst (-1), 1) := by decide +kernel
theorem dX8_atOnce_63 : decode cX8_atOnce 63 = .ok (.goto 9, 3) := by decide +kernel
theorem dX8_atOnce_66 : decode cX8_atOnce 66 = .ok (.aload_n 0, 1) := by decide +kernel
theorem dX8_atOnce_67 : decode cX8_atOnce 67 = .ok (.getfield 53, 3) := by decide +kernel
theorem dX8_atOnce_70 : decode cX8_atOnce 70 = .ok (.iload_n 1, 1) := by decide +kernel
theorem dX8_atOnce_71 : decode cX8_atOnce 71 = .ok (.iaload, 1) := by decide +kernel
theorem dX8_atOnce_72 : decode cX8_atOnce 72 = .ok (.ireturn, 1) := by decide +kernel
theorem dX8_findMasks_0 : decode cX8_findMasks 0 = .ok (.aload_n 0, 1) := by decide +kernel
theorem dX8_findMasks_1 : decode cX8_findMasks 1 = .ok (.iconst 0, 1) := by decide +kernel
theorem dX8_findMasks_2 : decode cX8_findMasks 2 = .ok (.putfield 266, 3) := by decide +kernel
theorem dX8_findMasks_5 : decode cX8_findMasks 5 = .ok (.aload_n 0, 1) := by decide +kernel
theorem dX8_findMasks_6 : decode cX8_findMasks 6 = .ok (.invokevirtual 250, 3) := by decide +kernel
theorem dX8_findMasks_9 : decode cX8_findMasks 9 = .ok (.istore_n 1, 1) := by decide +kernel
theorem dX8_findMasks_10 : decode cX8_findMasks 10 = .ok (.iconst 0, 1) := by decide +kernel
theorem dX8_findMasks_11 : decode cX8_findMasks 11 = .ok (.istore_n 2, 1) := by decide +kernel
theorem dX8_findMasks_12 : decode cX8_findMasks 12 = .ok (.iload_n 2, 1) := by decide +kernel
theorem dX8_findMasks_13 : decode cX8_findMasks 13 = .ok (.sipush 10648, 3) := by decide +kernel
theorem dX8_findMasks_16 : decode cX8_findMasks 16 = .ok (.if_icmp .ge 59, 3) := by decide +kernel
theorem dX8_findMasks_19 : decode cX8_findMasks 19 = .ok (.aload_n 0, 1) := by decide +kernel
theorem dX8_findMasks_20 : decode cX8_findMasks 20 = .ok (.iload_n 2, 1) := by decide +kernel
theorem dX8_findMasks_21 : decode cX8_findMasks 21 = .ok (.invokevirtual 253, 3) := by decide +kernel
theorem dX8_findMasks_24 : decode cX8_findMasks 24 = .ok (.istore_n 3, 1) := by decide +kernel
theorem dX8_findMasks_25 : decode cX8_findMasks 25 = .ok (.iload_n 3, 1) := by decide +kernel
theorem dX8_findMasks_26 : decode cX8_findMasks 26 = .ok (.ifCond .le 43, 3) := by decide +kernel
theorem dX8_findMasks_29 : decode cX8_findMasks 29 = .ok (.iload_n 3, 1) := by decide +kernel
theorem dX8_findMasks_30 : decode cX8_findMasks 30 = .ok (.invokestatic 238, 3) := by decide +kernel
theorem dX8_findMasks_33 : decode cX8_findMasks 33 = .ok (.iconst 2, 1) := by decide +kernel
theorem dX8_findMasks_34 : decode cX8_findMasks 34 = .ok (.idiv, 1) := by decide +kernel
theorem dX8_findMasks_35 : decode cX8_findMasks 35 = .ok (.iload_n 1, 1) := by decide +kernel
theorem dX8_findMasks_36 : decode cX8_findMasks 36 = .ok (.if_icmp .gt 33, 3) := by decide +kernel
theorem dX8_findMasks_39 : decode cX8_findMasks 39 = .ok (.aload_n 0, 1) := by decide +kernel
theorem dX8_findMasks_40 : decode cX8_findMasks 40 = .ok (.getfield 56, 3) := by decide +kernel
theorem dX8_findMasks_43 : decode cX8_findMasks 43 = .ok (.aload_n 0, 1) := by decide +kernel
theorem dX8_findMasks_44 : decode cX8_findMasks 44 = .ok (.getfield 266, 3) := by decide +kernel
theorem dX8_findMasks_47 : decode cX8_findMasks 47 = .ok (.iload_n 3, 1) := by decide +kernel
theorem dX8_findMasks_48 : decode cX8_findMasks 48 = .ok (.iastore, 1) := by decide +kernel
theorem dX8_findMasks_49 : decode cX8_findMasks 49 = .ok (.aload_n 0, 1) := by decide +kernel
theorem dX8_findMasks_50 : decode cX8_findMasks 50 = .ok (.getfield 59, 3) := by decide +kernel
theorem dX8_findMasks_53 : decode cX8_findMasks 53 = .ok (.aload_n 0, 1) := by decide +kernel
theorem dX8_findMasks_54 : decode cX8_findMasks 54 = .ok (.getfield 266, 3) := by decide +kernel
theorem dX8_findMasks_57 : decode cX8_findMasks 57 = .ok (.iload_n 2, 1) := by decide +kernel
theorem dX8_findMasks_58 : decode cX8_findMasks 58 = .ok (.iastore, 1) := by decide +kernel
theorem dX8_findMasks_59 : decode cX8_findMasks 59 = .ok (.aload_n 0, 1) := by decide +kernel
theorem dX8_findMasks_60 : decode cX8_findMasks 60 = .ok (.dup, 1) := by decide +kernel
theorem dX8_findMasks_61 : decode cX8_findMasks 61 = .ok (.getfield 266, 3) := by decide +kernel
theorem dX8_findMasks_64 : decode cX8_findMasks 64 = .ok (.iconst 1, 1) := by decide +kernel
theorem dX8_findMasks_65 : decode cX8_findMasks 65 = .ok (.iadd, 1) := by decide +kernel
theorem dX8_findMasks_66 : decode cX8_findMasks 66 = .ok (.putfield 266, 3) := by decide +kernel
theorem dX8_findMasks_69 : decode cX8_findMasks 69 = .ok (.iinc 2 1, 3) := by decide +kernel
theorem dX8_findMasks_72 : decode cX8_findMasks 72 = .ok (.goto (-60), 3) := by decide +kernel
theorem dX8_findMasks_75 : decode cX8_findMasks 75 = .ok (.return_, 1) := by decide +kernel
theorem dX8_apart_0 : decode cX8_apart 0 = .ok (.iload_n 0, 1) := by decide +kernel
theorem dX8_apart_1 : decode cX8_apart 1 = .ok (.iload_n 1, 1) := by decide +kernel
theorem dX8_apart_2 : decode cX8_apart 2 = .ok (.invokestatic 269, 3) := by decide +kernel
theorem dX8_apart_5 : decode cX8_apart 5 = .ok (.iload_n 0, 1) := by decide +kernel
theorem dX8_apart_6 : decode cX8_apart 6 = .ok (.iload_n 2, 1) := by decide +kernel
theorem dX8_apart_7 : decode cX8_apart 7 = .ok (.invokestatic 269, 3) := by decide +kernel
theorem dX8_apart_10 : decode cX8_apart 10 = .ok (.if_icmp .eq 7, 3) := by decide +kernel
theorem dX8_apart_13 : decode cX8_apart 13 = .ok (.iconst 1, 1) := by decide +kernel
theorem dX8_apart_14 : decode cX8_apart 14 = .ok (.goto 4, 3) := by decide +kernel
theorem dX8_apart_17 : decode cX8_apart 17 = .ok (.iconst 0, 1) := by decide +kernel
theorem dX8_apart_18 : decode cX8_apart 18 = .ok (.ireturn, 1) := by decide +kernel
theorem dX8_canMeet_0 : decode cX8_canMeet 0 = .ok (.aload_n 0, 1) := by decide +kernel
theorem dX8_canMeet_1 : decode cX8_canMeet 1 = .ok (.iload_n 2, 1) := by decide +kernel
theorem dX8_canMeet_2 : decode cX8_canMeet 2 = .ok (.invokevirtual 253, 3) := by decide +kernel
theorem dX8_canMeet_5 : decode cX8_canMeet 5 = .ok (.istore_n 3, 1) := by decide +kernel
theorem dX8_canMeet_6 : decode cX8_canMeet 6 = .ok (.iload_n 3, 1) := by decide +kernel
theorem dX8_canMeet_7 : decode cX8_canMeet 7 = .ok (.ifCond .lt 7, 3) := by decide +kernel
theorem dX8_canMeet_10 : decode cX8_canMeet 10 = .ok (.iconst 1, 1) := by decide +kernel
theorem dX8_canMeet_11 : decode cX8_canMeet 11 = .ok (.goto 4, 3) := by decide +kernel
theorem dX8_canMeet_14 : decode cX8_canMeet 14 = .ok (.iconst 0, 1) := by decide +kernel
theorem dX8_canMeet_15 : decode cX8_canMeet 15 = .ok (.istore 4, 2) := by decide +kernel
theorem dX8_canMeet_17 : decode cX8_canMeet 17 = .ok (.iconst 0, 1) := by decide +kernel
theorem dX8_canMeet_18 : decode cX8_canMeet 18 = .ok (.istore 5, 2) := by decide +kernel
theorem dX8_canMeet_20 : decode cX8_canMeet 20 = .ok (.iload 5, 2) := by decide +kernel
theorem dX8_canMeet_22 : decode cX8_canMeet 22 = .ok (.iconst 3, 1) := by decide +kernel
theorem dX8_canMeet_23 : decode cX8_canMeet 23 = .ok (.if_icmp .ge 58, 3) := by decide +kernel
theorem dX8_canMeet_26 : decode cX8_canMeet 26 = .ok (.aload_n 0, 1) := by decide +kernel
theorem dX8_canMeet_27 : decode cX8_canMeet 27 = .ok (.getfield 47, 3) := by decide +kernel
theorem dX8_canMeet_30 : decode cX8_canMeet 30 = .ok (.iload 5, 2) := by decide +kernel
theorem dX8_canMeet_32 : decode cX8_canMeet 32 = .ok (.iaload, 1) := by decide +kernel
theorem dX8_canMeet_33 : decode cX8_canMeet 33 = .ok (.istore 6, 2) := by decide +kernel
theorem dX8_canMeet_35 : decode cX8_canMeet 35 = .ok (.iload 4, 2) := by decide +kernel
theorem dX8_canMeet_37 : decode cX8_canMeet 37 = .ok (.ifCond .eq 35, 3) := by decide +kernel
theorem dX8_canMeet_40 : decode cX8_canMeet 40 = .ok (.iload 6, 2) := by decide +kernel
theorem dX8_canMeet_42 : decode cX8_canMeet 42 = .ok (.bipush 21, 2) := by decide +kernel
theorem dX8_canMeet_44 : decode cX8_canMeet 44 = .ok (.if_icmp .eq 24, 3) := by decide +kernel
theorem dX8_canMeet_47 : decode cX8_canMeet 47 = .ok (.iload_n 1, 1) := by decide +kernel
theorem dX8_canMeet_48 : decode cX8_canMeet 48 = .ok (.aload_n 0, 1) := by decide +kernel
theorem dX8_canMeet_49 : decode cX8_canMeet 49 = .ok (.getfield 19, 3) := by decide +kernel
theorem dX8_canMeet_52 : decode cX8_canMeet 52 = .ok (.iload 6, 2) := by decide +kernel
theorem dX8_canMeet_54 : decode cX8_canMeet 54 = .ok (.iaload, 1) := by decide +kernel
theorem dX8_canMeet_55 : decode cX8_canMeet 55 = .ok (.aload_n 0, 1) := by decide +kernel
theorem dX8_canMeet_56 : decode cX8_canMeet 56 = .ok (.getfield 22, 3) := by decide +kernel
theorem dX8_canMeet_59 : decode cX8_canMeet 59 = .ok (.iload 6, 2) := by decide +kernel
theorem dX8_canMeet_61 : decode cX8_canMeet 61 = .ok (.iaload, 1) := by decide +kernel
theorem dX8_canMeet_62 : decode cX8_canMeet 62 = .ok (.invokestatic 272, 3) := by decide +kernel
theorem dX8_canMeet_65 : decode cX8_canMeet 65 = .ok (.ifCond .eq 7, 3) := by decide +kernel
theorem dX8_canMeet_68 : decode cX8_canMeet 68 = .ok (.iconst 1, 1) := by decide +kernel
theorem dX8_canMeet_69 : decode cX8_canMeet 69 = .ok (.goto 4, 3) := by decide +kernel
theorem dX8_canMeet_72 : decode cX8_canMeet 72 = .ok (.iconst 0, 1) := by decide +kernel
theorem dX8_canMeet_73 : decode cX8_canMeet 73 = .ok (.istore 4, 2) := by decide +kernel
theorem dX8_canMeet_75 : decode cX8_canMeet 75 = .ok (.iinc 5 1, 3) := by decide +kernel
theorem dX8_canMeet_78 : decode cX8_canMeet 78 = .ok (.goto (-58), 3) := by decide +kernel
theorem dX8_canMeet_81 : decode cX8_canMeet 81 = .ok (.iload 4, 2) := by decide +kernel
theorem dX8_canMeet_83 : decode cX8_canMeet 83 = .ok (.ireturn, 1) := by decide +kernel
theorem dX8_isThere_0 : decode cX8_isThere 0 = .ok (.iconst 0, 1) := by decide +kernel
theorem dX8_isThere_1 : decode cX8_isThere 1 = .ok (.istore_n 3, 1) := by decide +kernel
theorem dX8_isThere_2 : decode cX8_isThere 2 = .ok (.iload_n 3, 1) := by decide +kernel
theorem dX8_isThere_3 : decode cX8_isThere 3 = .ok (.sipush 128, 3) := by decide +kernel
theorem dX8_isThere_6 : decode cX8_isThere 6 = .ok (.if_icmp .ge 29, 3) := by decide +kernel
theorem dX8_isThere_9 : decode cX8_isThere 9 = .ok (.aload_n 0, 1) := by decide +kernel
theorem dX8_isThere_10 : decode cX8_isThere 10 = .ok (.getfield 62, 3) := by decide +kernel
theorem dX8_isThere_13 : decode cX8_isThere 13 = .ok (.iload_n 3, 1) := by decide +kernel
theorem dX8_isThere_14 : decode cX8_isThere 14 = .ok (.baload, 1) := by decide +kernel
theorem dX8_isThere_15 : decode cX8_isThere 15 = .ok (.ifCond .eq 14, 3) := by decide +kernel
theorem dX8_isThere_18 : decode cX8_isThere 18 = .ok (.iload_n 3, 1) := by decide +kernel
theorem dX8_isThere_19 : decode cX8_isThere 19 = .ok (.iload_n 1, 1) := by decide +kernel
theorem dX8_isThere_20 : decode cX8_isThere 20 = .ok (.iand, 1) := by decide +kernel
theorem dX8_isThere_21 : decode cX8_isThere 21 = .ok (.iload_n 2, 1) := by decide +kernel
theorem dX8_isThere_22 : decode cX8_isThere 22 = .ok (.iload_n 1, 1) := by decide +kernel
theorem dX8_isThere_23 : decode cX8_isThere 23 = .ok (.iand, 1) := by decide +kernel
theorem dX8_isThere_24 : decode cX8_isThere 24 = .ok (.if_icmp .ne 5, 3) := by decide +kernel
theorem dX8_isThere_27 : decode cX8_isThere 27 = .ok (.iconst 1, 1) := by decide +kernel
theorem dX8_isThere_28 : decode cX8_isThere 28 = .ok (.ireturn, 1) := by decide +kernel
theorem dX8_isThere_29 : decode cX8_isThere 29 = .ok (.iinc 3 1, 3) := by decide +kernel
theorem dX8_isThere_32 : decode cX8_isThere 32 = .ok (.goto (-30), 3) := by decide +kernel
theorem dX8_isThere_35 : decode cX8_isThere 35 = .ok (.iconst 0, 1) := by decide +kernel
theorem dX8_isThere_36 : decode cX8_isThere 36 = .ok (.ireturn, 1) := by decide +kernel
theorem dX8_anHour_0 : decode cX8_anHour 0 = .ok (.iconst 0, 1) := by decide +kernel
theorem dX8_anHour_1 : decode cX8_anHour 1 = .ok (.istore_n 1, 1) := by decide +kernel
theorem dX8_anHour_2 : decode cX8_anHour 2 = .ok (.iload_n 1, 1) := by decide +kernel
theorem dX8_anHour_3 : decode cX8_anHour 3 = .ok (.sipush 128, 3) := by decide +kernel
theorem dX8_anHour_6 : decode cX8_anHour 6 = .ok (.if_icmp .ge 21, 3) := by decide +kernel
theorem dX8_anHour_9 : decode cX8_anHour 9 = .ok (.aload_n 0, 1) := by decide +kernel
theorem dX8_anHour_10 : decode cX8_anHour 10 = .ok (.getfield 66, 3) := by decide +kernel
theorem dX8_anHour_13 : decode cX8_anHour 13 = .ok (.iload_n 1, 1) := by decide +kernel
theorem dX8_anHour_14 : decode cX8_anHour 14 = .ok (.aload_n 0, 1) := by decide +kernel
theorem dX8_anHour_15 : decode cX8_anHour 15 = .ok (.getfield 62, 3) := by decide +kernel
theorem dX8_anHour_18 : decode cX8_anHour 18 = .ok (.iload_n 1, 1) := by decide +kernel
theorem dX8_anHour_19 : decode cX8_anHour 19 = .ok (.baload, 1) := by decide +kernel
theorem dX8_anHour_20 : decode cX8_anHour 20 = .ok (.bastore, 1) := by decide +kernel
theorem dX8_anHour_21 : decode cX8_anHour 21 = .ok (.iinc 1 1, 3) := by decide +kernel
theorem dX8_anHour_24 : decode cX8_anHour 24 = .ok (.goto (-22), 3) := by decide +kernel
theorem dX8_anHour_27 : decode cX8_anHour 27 = .ok (.iconst 0, 1) := by decide +kernel
theorem dX8_anHour_28 : decode cX8_anHour 28 = .ok (.istore_n 1, 1) := by decide +kernel
theorem dX8_anHour_29 : decode cX8_anHour 29 = .ok (.iload_n 1, 1) := by decide +kernel
theorem dX8_anHour_30 : decode cX8_anHour 30 = .ok (.sipush 128, 3) := by decide +kernel
theorem dX8_anHour_33 : decode cX8_anHour 33 = .ok (.if_icmp .ge 88, 3) := by decide +kernel
theorem dX8_anHour_36 : decode cX8_anHour 36 = .ok (.iconst 0, 1) := by decide +kernel
theorem dX8_anHour_37 : decode cX8_anHour 37 = .ok (.istore_n 2, 1) := by decide +kernel
theorem dX8_anHour_38 : decode cX8_anHour 38 = .ok (.iload_n 2, 1) := by decide +kernel
theorem dX8_anHour_39 : decode cX8_anHour 39 = .ok (.aload_n 0, 1) := by decide +kernel
theorem dX8_anHour_40 : decode cX8_anHour 40 = .ok (.getfield 266, 3) := by decide +kernel
theorem dX8_anHour_43 : decode cX8_anHour 43 = .ok (.if_icmp .ge 72, 3) := by decide +kernel
theorem dX8_anHour_46 : decode cX8_anHour 46 = .ok (.aload_n 0, 1) := by decide +kernel
theorem dX8_anHour_47 : decode cX8_anHour 47 = .ok (.getfield 62, 3) := by decide +kernel
theorem dX8_anHour_50 : decode cX8_anHour 50 = .ok (.iload_n 1, 1) := by decide +kernel
theorem dX8_anHour_51 : decode cX8_anHour 51 = .ok (.baload, 1) := by decide +kernel
theorem dX8_anHour_52 : decode cX8_anHour 52 = .ok (.ifCond .eq 63, 3) := by decide +kernel
theorem dX8_anHour_55 : decode cX8_anHour 55 = .ok (.aload_n 0, 1) := by decide +kernel
theorem dX8_anHour_56 : decode cX8_anHour 56 = .ok (.getfield 66, 3) := by decide +kernel
theorem dX8_anHour_59 : decode cX8_anHour 59 = .ok (.iload_n 1, 1) := by decide +kernel
theorem dX8_anHour_60 : decode cX8_anHour 60 = .ok (.aload_n 0, 1) := by decide +kernel
theorem dX8_anHour_61 : decode cX8_anHour 61 = .ok (.getfield 56, 3) := by decide +kernel
theorem dX8_anHour_64 : decode cX8_anHour 64 = .ok (.iload_n 2, 1) := by decide +kernel
theorem dX8_anHour_65 : decode cX8_anHour 65 = .ok (.iaload, 1) := by decide +kernel
theorem dX8_anHour_66 : decode cX8_anHour 66 = .ok (.ixor, 1) := by decide +kernel
theorem dX8_anHour_67 : decode cX8_anHour 67 = .ok (.baload, 1) := by decide +kernel
theorem dX8_anHour_68 : decode cX8_anHour 68 = .ok (.ifCond .ne 7, 3) := by decide +kernel
theorem dX8_anHour_71 : decode cX8_anHour 71 = .ok (.iconst 1, 1) := by decide +kernel
theorem dX8_anHour_72 : decode cX8_anHour 72 = .ok (.goto 4, 3) := by decide +kernel
theorem dX8_anHour_75 : decode cX8_anHour 75 = .ok (.iconst 0, 1) := by decide +kernel
theorem dX8_anHour_76 : decode cX8_anHour 76 = .ok (.istore_n 3, 1) := by decide +kernel
theorem dX8_anHour_77 : decode cX8_anHour 77 = .ok (.iload_n 3, 1) := by decide +kernel
theorem dX8_anHour_78 : decode cX8_anHour 78 = .ok (.ifCond .eq 31, 3) := by decide +kernel
theorem dX8_anHour_81 : decode cX8_anHour 81 = .ok (.aload_n 0, 1) := by decide +kernel
theorem dX8_anHour_82 : decode cX8_anHour 82 = .ok (.iload_n 1, 1) := by decide +kernel
theorem dX8_anHour_83 : decode cX8_anHour 83 = .ok (.aload_n 0, 1) := by decide +kernel
theorem dX8_anHour_84 : decode cX8_anHour 84 = .ok (.getfield 59, 3) := by decide +kernel
theorem dX8_anHour_87 : decode cX8_anHour 87 = .ok (.iload_n 2, 1) := by decide +kernel
theorem dX8_anHour_88 : decode cX8_anHour 88 = .ok (.iaload, 1) := by decide +kernel
theorem dX8_anHour_89 : decode cX8_anHour 89 = .ok (.invokevirtual 276, 3) := by decide +kernel
theorem dX8_anHour_92 : decode cX8_anHour 92 = .ok (.ifCond .eq 17, 3) := by decide +kernel
theorem dX8_anHour_95 : decode cX8_anHour 95 = .ok (.aload_n 0, 1) := by decide +kernel
theorem dX8_anHour_96 : decode cX8_anHour 96 = .ok (.getfield 66, 3) := by decide +kernel
theorem dX8_anHour_99 : decode cX8_anHour 99 = .ok (.iload_n 1, 1) := by decide +kernel
theorem dX8_anHour_100 : decode cX8_anHour 100 = .ok (.aload_n 0, 1) := by decide +kernel
theorem dX8_anHour_101 : decode cX8_anHour 101 = .ok (.getfield 56, 3) := by decide +kernel
theorem dX8_anHour_104 : decode cX8_anHour 104 = .ok (.iload_n 2, 1) := by decide +kernel
theorem dX8_anHour_105 : decode cX8_anHour 105 = .ok (.iaload, 1) := by decide +kernel
theorem dX8_anHour_106 : decode cX8_anHour 106 = .ok (.ixor, 1) := by decide +kernel
theorem dX8_anHour_107 : decode cX8_anHour 107 = .ok (.iconst 1, 1) := by decide +kernel
theorem dX8_anHour_108 : decode cX8_anHour 108 = .ok (.bastore, 1) := by decide +kernel
theorem dX8_anHour_109 : decode cX8_anHour 109 = .ok (.iinc 2 1, 3) := by decide +kernel
theorem dX8_anHour_112 : decode cX8_anHour 112 = .ok (.goto (-74), 3) := by decide +kernel
theorem dX8_anHour_115 : decode cX8_anHour 115 = .ok (.iinc 1 1, 3) := by decide +kernel
theorem dX8_anHour_118 : decode cX8_anHour 118 = .ok (.goto (-89), 3) := by decide +kernel
theorem dX8_anHour_121 : decode cX8_anHour 121 = .ok (.iconst 0, 1) := by decide +kernel
theorem dX8_anHour_122 : decode cX8_anHour 122 = .ok (.istore_n 1, 1) := by decide +kernel
theorem dX8_anHour_123 : decode cX8_anHour 123 = .ok (.iload_n 1, 1) := by decide +kernel
theorem dX8_anHour_124 : decode cX8_anHour 124 = .ok (.sipush 128, 3) := by decide +kernel
theorem dX8_anHour_127 : decode cX8_anHour 127 = .ok (.if_icmp .ge 21, 3) := by decide +kernel
theorem dX8_anHour_130 : decode cX8_anHour 130 = .ok (.aload_n 0, 1) := by decide +kernel
theorem dX8_anHour_131 : decode cX8_anHour 131 = .ok (.getfield 62, 3) := by decide +kernel
theorem dX8_anHour_134 : decode cX8_anHour 134 = .ok (.iload_n 1, 1) := by decide +kernel
theorem dX8_anHour_135 : decode cX8_anHour 135 = .ok (.aload_n 0, 1) := by decide +kernel
theorem dX8_anHour_136 : decode cX8_anHour 136 = .ok (.getfield 66, 3) := by decide +kernel
theorem dX8_anHour_139 : decode cX8_anHour 139 = .ok (.iload_n 1, 1) := by decide +kernel
theorem dX8_anHour_140 : decode cX8_anHour 140 = .ok (.baload, 1) := by decide +kernel
theorem dX8_anHour_141 : decode cX8_anHour 141 = .ok (.bastore, 1) := by decide +kernel
theorem dX8_anHour_142 : decode cX8_anHour 142 = .ok (.iinc 1 1, 3) := by decide +kernel
theorem dX8_anHour_145 : decode cX8_anHour 145 = .ok (.goto (-22), 3) := by decide +kernel
theorem dX8_anHour_148 : decode cX8_anHour 148 = .ok (.return_, 1) := by decide +kernel
theorem dX8_sides_0 : decode cX8_sides 0 = .ok (.aload_n 0, 1) := by decide +kernel
theorem dX8_sides_1 : decode cX8_sides 1 = .ok (.iload_n 1, 1) := by decide +kernel
theorem dX8_sides_2 : decode cX8_sides 2 = .ok (.invokevirtual 279, 3) := by decide +kernel
theorem dX8_sides_5 : decode cX8_sides 5 = .ok (.ifCond .eq 11, 3) := by decide +kernel
theorem dX8_sides_8 : decode cX8_sides 8 = .ok (.aload_n 0, 1) := by decide +kernel
theorem dX8_sides_9 : decode cX8_sides 9 = .ok (.iload_n 2, 1) := by decide +kernel
theorem dX8_sides_10 : decode cX8_sides 10 = .ok (.invokevirtual 279, 3) := by decide +kernel
theorem dX8_sides_13 : decode cX8_sides 13 = .ok (.ifCond .ne 6, 3) := by decide +kernel
theorem dX8_sides_16 : decode cX8_sides 16 = .ok (.ldc 183, 2) := by decide +kernel
theorem dX8_sides_18 : decode cX8_sides 18 = .ok (.ireturn, 1) := by decide +kernel
theorem dX8_sides_19 : decode cX8_sides 19 = .ok (.aload_n 0, 1) := by decide +kernel
theorem dX8_sides_20 : decode cX8_sides 20 = .ok (.invokevirtual 282, 3) := by decide +kernel
theorem dX8_sides_23 : decode cX8_sides 23 = .ok (.iconst 0, 1) := by decide +kernel
theorem dX8_sides_24 : decode cX8_sides 24 = .ok (.istore_n 3, 1) := by decide +kernel
theorem dX8_sides_25 : decode cX8_sides 25 = .ok (.iload_n 3, 1) := by decide +kernel
theorem dX8_sides_26 : decode cX8_sides 26 = .ok (.sipush 128, 3) := by decide +kernel
theorem dX8_sides_29 : decode cX8_sides 29 = .ok (.if_icmp .ge 29, 3) := by decide +kernel
theorem dX8_sides_32 : decode cX8_sides 32 = .ok (.aload_n 0, 1) := by decide +kernel
theorem dX8_sides_33 : decode cX8_sides 33 = .ok (.getfield 62, 3) := by decide +kernel
theorem dX8_sides_36 : decode cX8_sides 36 = .ok (.iload_n 3, 1) := by decide +kernel
theorem dX8_sides_37 : decode cX8_sides 37 = .ok (.iload_n 3, 1) := by decide +kernel
theorem dX8_sides_38 : decode cX8_sides 38 = .ok (.aload_n 0, 1) := by decide +kernel
theorem dX8_sides_39 : decode cX8_sides 39 = .ok (.iconst 0, 1) := by decide +kernel
theorem dX8_sides_40 : decode cX8_sides 40 = .ok (.invokevirtual 169, 3) := by decide +kernel
theorem dX8_sides_43 : decode cX8_sides 43 = .ok (.if_icmp .ne 7, 3) := by decide +kernel
theorem dX8_sides_46 : decode cX8_sides 46 = .ok (.iconst 1, 1) := by decide +kernel
theorem dX8_sides_47 : decode cX8_sides 47 = .ok (.goto 4, 3) := by decide +kernel
theorem dX8_sides_50 : decode cX8_sides 50 = .ok (.iconst 0, 1) := by decide +kernel
theorem dX8_sides_51 : decode cX8_sides 51 = .ok (.bastore, 1) := by decide +kernel
theorem dX8_sides_52 : decode cX8_sides 52 = .ok (.iinc 3 1, 3) := by decide +kernel
theorem dX8_sides_55 : decode cX8_sides 55 = .ok (.goto (-30), 3) := by decide +kernel
theorem dX8_sides_58 : decode cX8_sides 58 = .ok (.iconst 0, 1) := by decide +kernel
theorem dX8_sides_59 : decode cX8_sides 59 = .ok (.istore_n 3, 1) := by decide +kernel
theorem dX8_sides_60 : decode cX8_sides 60 = .ok (.aload_n 0, 1) := by decide +kernel
theorem dX8_sides_61 : decode cX8_sides 61 = .ok (.iload_n 1, 1) := by decide +kernel
theorem dX8_sides_62 : decode cX8_sides 62 = .ok (.iload_n 2, 1) := by decide +kernel
theorem dX8_sides_63 : decode cX8_sides 63 = .ok (.invokevirtual 285, 3) := by decide +kernel
theorem dX8_sides_66 : decode cX8_sides 66 = .ok (.istore 4, 2) := by decide +kernel
theorem dX8_sides_68 : decode cX8_sides 68 = .ok (.iload 4, 2) := by decide +kernel
theorem dX8_sides_70 : decode cX8_sides 70 = .ok (.ifCond .ne 27, 3) := by decide +kernel
theorem dX8_sides_73 : decode cX8_sides 73 = .ok (.iload_n 3, 1) := by decide +kernel
theorem dX8_sides_74 : decode cX8_sides 74 = .ok (.bipush 40, 2) := by decide +kernel
theorem dX8_sides_76 : decode cX8_sides 76 = .ok (.if_icmp .ge 21, 3) := by decide +kernel
theorem dX8_sides_79 : decode cX8_sides 79 = .ok (.aload_n 0, 1) := by decide +kernel
theorem dX8_sides_80 : decode cX8_sides 80 = .ok (.invokevirtual 288, 3) := by decide +kernel
theorem dX8_sides_83 : decode cX8_sides 83 = .ok (.iinc 3 1, 3) := by decide +kernel
theorem dX8_sides_86 : decode cX8_sides 86 = .ok (.aload_n 0, 1) := by decide +kernel
theorem dX8_sides_87 : decode cX8_sides 87 = .ok (.iload_n 1, 1) := by decide +kernel
theorem dX8_sides_88 : decode cX8_sides 88 = .ok (.iload_n 2, 1) := by decide +kernel
theorem dX8_sides_89 : decode cX8_sides 89 = .ok (.invokevirtual 285, 3) := by decide +kernel
theorem dX8_sides_92 : decode cX8_sides 92 = .ok (.istore 4, 2) := by decide +kernel
theorem dX8_sides_94 : decode cX8_sides 94 = .ok (.goto (-26), 3) := by decide +kernel
theorem dX8_sides_97 : decode cX8_sides 97 = .ok (.iload 4, 2) := by decide +kernel
theorem dX8_sides_99 : decode cX8_sides 99 = .ok (.ifCond .eq 7, 3) := by decide +kernel
theorem dX8_sides_102 : decode cX8_sides 102 = .ok (.iload_n 3, 1) := by decide +kernel
theorem dX8_sides_103 : decode cX8_sides 103 = .ok (.goto 4, 3) := by decide +kernel
theorem dX8_sides_106 : decode cX8_sides 106 = .ok (.iconst (-1), 1) := by decide +kernel
theorem dX8_sides_107 : decode cX8_sides 107 = .ok (.ireturn, 1) := by decide +kernel
theorem dX8_likesNow_0 : decode cX8_likesNow 0 = .ok (.aload_n 0, 1) := by decide +kernel
theorem dX8_likesNow_1 : decode cX8_likesNow 1 = .ok (.getfield 53, 3) := by decide +kernel
theorem dX8_likesNow_4 : decode cX8_likesNow 4 = .ok (.iload_n 1, 1) := by decide +kernel
theorem dX8_likesNow_5 : decode cX8_likesNow 5 = .ok (.iaload, 1) := by decide +kernel
theorem dX8_likesNow_6 : decode cX8_likesNow 6 = .ok (.bipush 7, 2) := by decide +kernel
theorem dX8_likesNow_8 : decode cX8_likesNow 8 = .ok (.if_icmp .ne 7, 3) := by decide +kernel
theorem dX8_likesNow_11 : decode cX8_likesNow 11 = .ok (.iconst 0, 1) := by decide +kernel
theorem dX8_likesNow_12 : decode cX8_likesNow 12 = .ok (.goto 19, 3) := by decide +kernel
theorem dX8_likesNow_15 : decode cX8_likesNow 15 = .ok (.aload_n 0, 1) := by decide +kernel
theorem dX8_likesNow_16 : decode cX8_likesNow 16 = .ok (.getfield 13, 3) := by decide +kernel
theorem dX8_likesNow_19 : decode cX8_likesNow 19 = .ok (.bipush 7, 2) := by decide +kernel
theorem dX8_likesNow_21 : decode cX8_likesNow 21 = .ok (.iload_n 1, 1) := by decide +kernel
theorem dX8_likesNow_22 : decode cX8_likesNow 22 = .ok (.imul, 1) := by decide +kernel
theorem dX8_likesNow_23 : decode cX8_likesNow 23 = .ok (.aload_n 0, 1) := by decide +kernel
theorem dX8_likesNow_24 : decode cX8_likesNow 24 = .ok (.getfield 53, 3) := by decide +kernel
theorem dX8_likesNow_27 : decode cX8_likesNow 27 = .ok (.iload_n 1, 1) := by decide +kernel
theorem dX8_likesNow_28 : decode cX8_likesNow 28 = .ok (.iaload, 1) := by decide +kernel
theorem dX8_likesNow_29 : decode cX8_likesNow 29 = .ok (.iadd, 1) := by decide +kernel
theorem dX8_likesNow_30 : decode cX8_likesNow 30 = .ok (.iaload, 1) := by decide +kernel
theorem dX8_likesNow_31 : decode cX8_likesNow 31 = .ok (.ireturn, 1) := by decide +kernel
theorem dX8_steady_0 : decode cX8_steady 0 = .ok (.aload_n 0, 1) := by decide +kernel
theorem dX8_steady_1 : decode cX8_steady 1 = .ok (.invokevirtual 263, 3) := by decide +kernel
theorem dX8_steady_4 : decode cX8_steady 4 = .ok (.iconst 0, 1) := by decide +kernel
theorem dX8_steady_5 : decode cX8_steady 5 = .ok (.istore_n 1, 1) := by decide +kernel
theorem dX8_steady_6 : decode cX8_steady 6 = .ok (.iload_n 1, 1) := by decide +kernel
theorem dX8_steady_7 : decode cX8_steady 7 = .ok (.bipush 21, 2) := by decide +kernel
theorem dX8_steady_9 : decode cX8_steady 9 = .ok (.if_icmp .ge 72, 3) := by decide +kernel
theorem dX8_steady_12 : decode cX8_steady 12 = .ok (.aload_n 0, 1) := by decide +kernel
theorem dX8_steady_13 : decode cX8_steady 13 = .ok (.getfield 19, 3) := by decide +kernel
theorem dX8_steady_16 : decode cX8_steady 16 = .ok (.iload_n 1, 1) := by decide +kernel
theorem dX8_steady_17 : decode cX8_steady 17 = .ok (.iaload, 1) := by decide +kernel
theorem dX8_steady_18 : decode cX8_steady 18 = .ok (.istore_n 2, 1) := by decide +kernel
theorem dX8_steady_19 : decode cX8_steady 19 = .ok (.aload_n 0, 1) := by decide +kernel
theorem dX8_steady_20 : decode cX8_steady 20 = .ok (.getfield 22, 3) := by decide +kernel
theorem dX8_steady_23 : decode cX8_steady 23 = .ok (.iload_n 1, 1) := by decide +kernel
theorem dX8_steady_24 : decode cX8_steady 24 = .ok (.iaload, 1) := by decide +kernel
theorem dX8_steady_25 : decode cX8_steady 25 = .ok (.istore_n 3, 1) := by decide +kernel
theorem dX8_steady_26 : decode cX8_steady 26 = .ok (.aload_n 0, 1) := by decide +kernel
theorem dX8_steady_27 : decode cX8_steady 27 = .ok (.iload_n 2, 1) := by decide +kernel
theorem dX8_steady_28 : decode cX8_steady 28 = .ok (.iload_n 3, 1) := by decide +kernel
theorem dX8_steady_29 : decode cX8_steady 29 = .ok (.invokevirtual 166, 3) := by decide +kernel
theorem dX8_steady_32 : decode cX8_steady 32 = .ok (.ifCond .eq 43, 3) := by decide +kernel
theorem dX8_steady_35 : decode cX8_steady 35 = .ok (.aload_n 0, 1) := by decide +kernel
theorem dX8_steady_36 : decode cX8_steady 36 = .ok (.getfield 13, 3) := by decide +kernel
theorem dX8_steady_39 : decode cX8_steady 39 = .ok (.bipush 7, 2) := by decide +kernel
theorem dX8_steady_41 : decode cX8_steady 41 = .ok (.iload_n 2, 1) := by decide +kernel
theorem dX8_steady_42 : decode cX8_steady 42 = .ok (.imul, 1) := by decide +kernel
theorem dX8_steady_43 : decode cX8_steady 43 = .ok (.iload_n 3, 1) := by decide +kernel
theorem dX8_steady_44 : decode cX8_steady 44 = .ok (.iadd, 1) := by decide +kernel
theorem dX8_steady_45 : decode cX8_steady 45 = .ok (.iaload, 1) := by decide +kernel
theorem dX8_steady_46 : decode cX8_steady 46 = .ok (.aload_n 0, 1) := by decide +kernel
theorem dX8_steady_47 : decode cX8_steady 47 = .ok (.iload_n 2, 1) := by decide +kernel
theorem dX8_steady_48 : decode cX8_steady 48 = .ok (.invokevirtual 291, 3) := by decide +kernel
theorem dX8_steady_51 : decode cX8_steady 51 = .ok (.if_icmp .le 24, 3) := by decide +kernel
theorem dX8_steady_54 : decode cX8_steady 54 = .ok (.aload_n 0, 1) := by decide +kernel
theorem dX8_steady_55 : decode cX8_steady 55 = .ok (.getfield 13, 3) := by decide +kernel
theorem dX8_steady_58 : decode cX8_steady 58 = .ok (.bipush 7, 2) := by decide +kernel
theorem dX8_steady_60 : decode cX8_steady 60 = .ok (.iload_n 3, 1) := by decide +kernel
theorem dX8_steady_61 : decode cX8_steady 61 = .ok (.imul, 1) := by decide +kernel
theorem dX8_steady_62 : decode cX8_steady 62 = .ok (.iload_n 2, 1) := by decide +kernel
theorem dX8_steady_63 : decode cX8_steady 63 = .ok (.iadd, 1) := by decide +kernel
theorem dX8_steady_64 : decode cX8_steady 64 = .ok (.iaload, 1) := by decide +kernel
theorem dX8_steady_65 : decode cX8_steady 65 = .ok (.aload_n 0, 1) := by decide +kernel
theorem dX8_steady_66 : decode cX8_steady 66 = .ok (.iload_n 3, 1) := by decide +kernel
theorem dX8_steady_67 : decode cX8_steady 67 = .ok (.invokevirtual 291, 3) := by decide +kernel
theorem dX8_steady_70 : decode cX8_steady 70 = .ok (.if_icmp .le 5, 3) := by decide +kernel
theorem dX8_steady_73 : decode cX8_steady 73 = .ok (.iconst 0, 1) := by decide +kernel
theorem dX8_steady_74 : decode cX8_steady 74 = .ok (.ireturn, 1) := by decide +kernel
theorem dX8_steady_75 : decode cX8_steady 75 = .ok (.iinc 1 1, 3) := by decide +kernel
theorem dX8_steady_78 : decode cX8_steady 78 = .ok (.goto (-72), 3) := by decide +kernel
theorem dX8_steady_81 : decode cX8_steady 81 = .ok (.iconst 1, 1) := by decide +kernel
theorem dX8_steady_82 : decode cX8_steady 82 = .ok (.ireturn, 1) := by decide +kernel
theorem dX8_mostLiked_0 : decode cX8_mostLiked 0 = .ok (.iconst 0, 1) := by decide +kernel
theorem dX8_mostLiked_1 : decode cX8_mostLiked 1 = .ok (.istore_n 2, 1) := by decide +kernel
theorem dX8_mostLiked_2 : decode cX8_mostLiked 2 = .ok (.iconst 0, 1) := by decide +kernel
theorem dX8_mostLiked_3 : decode cX8_mostLiked 3 = .ok (.istore_n 3, 1) := by decide +kernel
theorem dX8_mostLiked_4 : decode cX8_mostLiked 4 = .ok (.iload_n 3, 1) := by decide +kernel
theorem dX8_mostLiked_5 : decode cX8_mostLiked 5 = .ok (.aload_n 0, 1) := by decide +kernel
theorem dX8_mostLiked_6 : decode cX8_mostLiked 6 = .ok (.getfield 94, 3) := by decide +kernel
theorem dX8_mostLiked_9 : decode cX8_mostLiked 9 = .ok (.if_icmp .ge 40, 3) := by decide +kernel
theorem dX8_mostLiked_12 : decode cX8_mostLiked 12 = .ok (.aload_n 0, 1) := by decide +kernel
theorem dX8_mostLiked_13 : decode cX8_mostLiked 13 = .ok (.getfield 13, 3) := by decide +kernel
theorem dX8_mostLiked_16 : decode cX8_mostLiked 16 = .ok (.bipush 7, 2) := by decide +kernel
theorem dX8_mostLiked_18 : decode cX8_mostLiked 18 = .ok (.iload_n 1, 1) := by decide +kernel
theorem dX8_mostLiked_19 : decode cX8_mostLiked 19 = .ok (.imul, 1) := by decide +kernel
theorem dX8_mostLiked_20 : decode cX8_mostLiked 20 = .ok (.iload_n 3, 1) := by decide +kernel
theorem dX8_mostLiked_21 : decode cX8_mostLiked 21 = .ok (.iadd, 1) := by decide +kernel
theorem dX8_mostLiked_22 : decode cX8_mostLiked 22 = .ok (.iaload, 1) := by decide +kernel
theorem dX8_mostLiked_23 : decode cX8_mostLiked 23 = .ok (.iload_n 2, 1) := by decide +kernel
theorem dX8_mostLiked_24 : decode cX8_mostLiked 24 = .ok (.if_icmp .le 17, 3) := by decide +kernel
theorem dX8_mostLiked_27 : decode cX8_mostLiked 27 = .ok (.aload_n 0, 1) := by decide +kernel
theorem dX8_mostLiked_28 : decode cX8_mostLiked 28 = .ok (.getfield 13, 3) := by decide +kernel
theorem dX8_mostLiked_31 : decode cX8_mostLiked 31 = .ok (.bipush 7, 2) := by decide +kernel
theorem dX8_mostLiked_33 : decode cX8_mostLiked 33 = .ok (.iload_n 1, 1) := by decide +kernel
theorem dX8_mostLiked_34 : decode cX8_mostLiked 34 = .ok (.imul, 1) := by decide +kernel
theorem dX8_mostLiked_35 : decode cX8_mostLiked 35 = .ok (.iload_n 3, 1) := by decide +kernel
theorem dX8_mostLiked_36 : decode cX8_mostLiked 36 = .ok (.iadd, 1) := by decide +kernel
theorem dX8_mostLiked_37 : decode cX8_mostLiked 37 = .ok (.iaload, 1) := by decide +kernel
theorem dX8_mostLiked_38 : decode cX8_mostLiked 38 = .ok (.goto 4, 3) := by decide +kernel
theorem dX8_mostLiked_41 : decode cX8_mostLiked 41 = .ok (.iload_n 2, 1) := by decide +kernel
theorem dX8_mostLiked_42 : decode cX8_mostLiked 42 = .ok (.istore_n 2, 1) := by decide +kernel
theorem dX8_mostLiked_43 : decode cX8_mostLiked 43 = .ok (.iinc 3 1, 3) := by decide +kernel
theorem dX8_mostLiked_46 : decode cX8_mostLiked 46 = .ok (.goto (-42), 3) := by decide +kernel
theorem dX8_mostLiked_49 : decode cX8_mostLiked 49 = .ok (.iload_n 2, 1) := by decide +kernel
theorem dX8_mostLiked_50 : decode cX8_mostLiked 50 = .ok (.ireturn, 1) := by decide +kernel
theorem dX8_loves_0 : decode cX8_loves 0 = .ok (.iconst 0, 1) := by decide +kernel
theorem dX8_loves_1 : decode cX8_loves 1 = .ok (.istore_n 2, 1) := by decide +kernel
theorem dX8_loves_2 : decode cX8_loves 2 = .ok (.iconst 0, 1) := by decide +kernel
theorem dX8_loves_3 : decode cX8_loves 3 = .ok (.istore_n 3, 1) := by decide +kernel
theorem dX8_loves_4 : decode cX8_loves 4 = .ok (.iload_n 3, 1) := by decide +kernel
theorem dX8_loves_5 : decode cX8_loves 5 = .ok (.bipush 21, 2) := by decide +kernel
theorem dX8_loves_7 : decode cX8_loves 7 = .ok (.if_icmp .ge 97, 3) := by decide +kernel
theorem dX8_loves_10 : decode cX8_loves 10 = .ok (.aload_n 0, 1) := by decide +kernel
theorem dX8_loves_11 : decode cX8_loves 11 = .ok (.getfield 19, 3) := by decide +kernel
theorem dX8_loves_14 : decode cX8_loves 14 = .ok (.iload_n 3, 1) := by decide +kernel
theorem dX8_loves_15 : decode cX8_loves 15 = .ok (.iaload, 1) := by decide +kernel
theorem dX8_loves_16 : decode cX8_loves 16 = .ok (.istore 4, 2) := by decide +kernel
theorem dX8_loves_18 : decode cX8_loves 18 = .ok (.aload_n 0, 1) := by decide +kernel
theorem dX8_loves_19 : decode cX8_loves 19 = .ok (.getfield 22, 3) := by decide +kernel
theorem dX8_loves_22 : decode cX8_loves 22 = .ok (.iload_n 3, 1) := by decide +kernel
theorem dX8_loves_23 : decode cX8_loves 23 = .ok (.iaload, 1) := by decide +kernel
theorem dX8_loves_24 : decode cX8_loves 24 = .ok (.istore 5, 2) := by decide +kernel
theorem dX8_loves_26 : decode cX8_loves 26 = .ok (.aload_n 0, 1) := by decide +kernel
theorem dX8_loves_27 : decode cX8_loves 27 = .ok (.iload 4, 2) := by decide +kernel
theorem dX8_loves_29 : decode cX8_loves 29 = .ok (.iload 5, 2) := by decide +kernel
theorem dX8_loves_31 : decode cX8_loves 31 = .ok (.invokevirtual 162, 3) := by decide +kernel
theorem dX8_loves_34 : decode cX8_loves 34 = .ok (.ifCond .eq 64, 3) := by decide +kernel
theorem dX8_loves_37 : decode cX8_loves 37 = .ok (.aload_n 0, 1) := by decide +kernel
theorem dX8_loves_38 : decode cX8_loves 38 = .ok (.getfield 13, 3) := by decide +kernel
theorem dX8_loves_41 : decode cX8_loves 41 = .ok (.bipush 7, 2) := by decide +kernel
theorem dX8_loves_43 : decode cX8_loves 43 = .ok (.iload 4, 2) := by decide +kernel
theorem dX8_loves_45 : decode cX8_loves 45 = .ok (.imul, 1) := by decide +kernel
theorem dX8_loves_46 : decode cX8_loves 46 = .ok (.iload 5, 2) := by decide +kernel
theorem dX8_loves_48 : decode cX8_loves 48 = .ok (.iadd, 1) := by decide +kernel
theorem dX8_loves_49 : decode cX8_loves 49 = .ok (.iaload, 1) := by decide +kernel
theorem dX8_loves_50 : decode cX8_loves 50 = .ok (.aload_n 0, 1) := by decide +kernel
theorem dX8_loves_51 : decode cX8_loves 51 = .ok (.iload 4, 2) := by decide +kernel
theorem dX8_loves_53 : decode cX8_loves 53 = .ok (.invokevirtual 294, 3) := by decide +kernel
theorem dX8_loves_56 : decode cX8_loves 56 = .ok (.if_icmp .ne 42, 3) := by decide +kernel
theorem dX8_loves_59 : decode cX8_loves 59 = .ok (.aload_n 0, 1) := by decide +kernel
theorem dX8_loves_60 : decode cX8_loves 60 = .ok (.getfield 13, 3) := by decide +kernel
theorem dX8_loves_63 : decode cX8_loves 63 = .ok (.bipush 7, 2) := by decide +kernel
theorem dX8_loves_65 : decode cX8_loves 65 = .ok (.iload 5, 2) := by decide +kernel
theorem dX8_loves_67 : decode cX8_loves 67 = .ok (.imul, 1) := by decide +kernel
theorem dX8_loves_68 : decode cX8_loves 68 = .ok (.iload 4, 2) := by decide +kernel
theorem dX8_loves_70 : decode cX8_loves 70 = .ok (.iadd, 1) := by decide +kernel
theorem dX8_loves_71 : decode cX8_loves 71 = .ok (.iaload, 1) := by decide +kernel
theorem dX8_loves_72 : decode cX8_loves 72 = .ok (.aload_n 0, 1) := by decide +kernel
theorem dX8_loves_73 : decode cX8_loves 73 = .ok (.iload 5, 2) := by decide +kernel
theorem dX8_loves_75 : decode cX8_loves 75 = .ok (.invokevirtual 294, 3) := by decide +kernel
theorem dX8_loves_78 : decode cX8_loves 78 = .ok (.if_icmp .ne 20, 3) := by decide +kernel
theorem dX8_loves_81 : decode cX8_loves 81 = .ok (.iload_n 2, 1) := by decide +kernel
theorem dX8_loves_82 : decode cX8_loves 82 = .ok (.iload_n 1, 1) := by decide +kernel
theorem dX8_loves_83 : decode cX8_loves 83 = .ok (.if_icmp .ne 12, 3) := by decide +kernel
theorem dX8_loves_86 : decode cX8_loves 86 = .ok (.bipush 10, 2) := by decide +kernel
theorem dX8_loves_88 : decode cX8_loves 88 = .ok (.iload 4, 2) := by decide +kernel
theorem dX8_loves_90 : decode cX8_loves 90 = .ok (.imul, 1) := by decide +kernel
theorem dX8_loves_91 : decode cX8_loves 91 = .ok (.iload 5, 2) := by decide +kernel
theorem dX8_loves_93 : decode cX8_loves 93 = .ok (.iadd, 1) := by decide +kernel
theorem dX8_loves_94 : decode cX8_loves 94 = .ok (.ireturn, 1) := by decide +kernel
theorem dX8_loves_95 : decode cX8_loves 95 = .ok (.iinc 2 1, 3) := by decide +kernel
theorem dX8_loves_98 : decode cX8_loves 98 = .ok (.iinc 3 1, 3) := by decide +kernel
theorem dX8_loves_101 : decode cX8_loves 101 = .ok (.goto (-97), 3) := by decide +kernel
theorem dX8_loves_104 : decode cX8_loves 104 = .ok (.iload_n 1, 1) := by decide +kernel
theorem dX8_loves_105 : decode cX8_loves 105 = .ok (.iconst (-1), 1) := by decide +kernel
theorem dX8_loves_106 : decode cX8_loves 106 = .ok (.if_icmp .ne 7, 3) := by decide +kernel
theorem dX8_loves_109 : decode cX8_loves 109 = .ok (.iload_n 2, 1) := by decide +kernel
theorem dX8_loves_110 : decode cX8_loves 110 = .ok (.goto 4, 3) := by decide +kernel
theorem dX8_loves_113 : decode cX8_loves 113 = .ok (.iconst (-1), 1) := by decide +kernel
theorem dX8_loves_114 : decode cX8_loves 114 = .ok (.ireturn, 1) := by decide +kernel
theorem dX8_madeIll_0 : decode cX8_madeIll 0 = .ok (.iconst 1, 1) := by decide +kernel
theorem dX8_madeIll_1 : decode cX8_madeIll 1 = .ok (.iload_n 1, 1) := by decide +kernel
theorem dX8_madeIll_2 : decode cX8_madeIll 2 = .ok (.ishl, 1) := by decide +kernel
theorem dX8_madeIll_3 : decode cX8_madeIll 3 = .ok (.istore_n 2, 1) := by decide +kernel
theorem dX8_madeIll_4 : decode cX8_madeIll 4 = .ok (.iconst 0, 1) := by decide +kernel
theorem dX8_madeIll_5 : decode cX8_madeIll 5 = .ok (.istore_n 3, 1) := by decide +kernel
theorem dX8_madeIll_6 : decode cX8_madeIll 6 = .ok (.iload_n 3, 1) := by decide +kernel
theorem dX8_madeIll_7 : decode cX8_madeIll 7 = .ok (.aload_n 0, 1) := by decide +kernel
theorem dX8_madeIll_8 : decode cX8_madeIll 8 = .ok (.getfield 16, 3) := by decide +kernel
theorem dX8_madeIll_11 : decode cX8_madeIll 11 = .ok (.bipush 34, 2) := by decide +kernel
theorem dX8_madeIll_13 : decode cX8_madeIll 13 = .ok (.iaload, 1) := by decide +kernel
theorem dX8_madeIll_14 : decode cX8_madeIll 14 = .ok (.if_icmp .ge 56, 3) := by decide +kernel
theorem dX8_madeIll_17 : decode cX8_madeIll 17 = .ok (.iconst 1, 1) := by decide +kernel
theorem dX8_madeIll_18 : decode cX8_madeIll 18 = .ok (.aload_n 0, 1) := by decide +kernel
theorem dX8_madeIll_19 : decode cX8_madeIll 19 = .ok (.getfield 16, 3) := by decide +kernel
theorem dX8_madeIll_22 : decode cX8_madeIll 22 = .ok (.bipush 35, 2) := by decide +kernel
theorem dX8_madeIll_24 : decode cX8_madeIll 24 = .ok (.iload_n 3, 1) := by decide +kernel
theorem dX8_madeIll_25 : decode cX8_madeIll 25 = .ok (.iadd, 1) := by decide +kernel
theorem dX8_madeIll_26 : decode cX8_madeIll 26 = .ok (.iaload, 1) := by decide +kernel
theorem dX8_madeIll_27 : decode cX8_madeIll 27 = .ok (.bipush 10, 2) := by decide +kernel
theorem dX8_madeIll_29 : decode cX8_madeIll 29 = .ok (.idiv, 1) := by decide +kernel
theorem dX8_madeIll_30 : decode cX8_madeIll 30 = .ok (.ishl, 1) := by decide +kernel
theorem dX8_madeIll_31 : decode cX8_madeIll 31 = .ok (.iconst 1, 1) := by decide +kernel
theorem dX8_madeIll_32 : decode cX8_madeIll 32 = .ok (.aload_n 0, 1) := by decide +kernel
theorem dX8_madeIll_33 : decode cX8_madeIll 33 = .ok (.getfield 16, 3) := by decide +kernel
theorem dX8_madeIll_36 : decode cX8_madeIll 36 = .ok (.bipush 35, 2) := by decide +kernel
theorem dX8_madeIll_38 : decode cX8_madeIll 38 = .ok (.iload_n 3, 1) := by decide +kernel
theorem dX8_madeIll_39 : decode cX8_madeIll 39 = .ok (.iadd, 1) := by decide +kernel
theorem dX8_madeIll_40 : decode cX8_madeIll 40 = .ok (.iaload, 1) := by decide +kernel
theorem dX8_madeIll_41 : decode cX8_madeIll 41 = .ok (.bipush 10, 2) := by decide +kernel
theorem dX8_madeIll_43 : decode cX8_madeIll 43 = .ok (.irem, 1) := by decide +kernel
theorem dX8_madeIll_44 : decode cX8_madeIll 44 = .ok (.ishl, 1) := by decide +kernel
theorem dX8_madeIll_45 : decode cX8_madeIll 45 = .ok (.ior, 1) := by decide +kernel
theorem dX8_madeIll_46 : decode cX8_madeIll 46 = .ok (.istore 4, 2) := by decide +kernel
theorem dX8_madeIll_48 : decode cX8_madeIll 48 = .ok (.iload_n 2, 1) := by decide +kernel
theorem dX8_madeIll_49 : decode cX8_madeIll 49 = .ok (.iload_n 2, 1) := by decide +kernel
theorem dX8_madeIll_50 : decode cX8_madeIll 50 = .ok (.iload 4, 2) := by decide +kernel
theorem dX8_madeIll_52 : decode cX8_madeIll 52 = .ok (.iand, 1) := by decide +kernel
theorem dX8_madeIll_53 : decode cX8_madeIll 53 = .ok (.ifCond .eq 8, 3) := by decide +kernel
theorem dX8_madeIll_56 : decode cX8_madeIll 56 = .ok (.iload 4, 2) := by decide +kernel
theorem dX8_madeIll_58 : decode cX8_madeIll 58 = .ok (.goto 4, 3) := by decide +kernel
theorem dX8_madeIll_61 : decode cX8_madeIll 61 = .ok (.iconst 0, 1) := by decide +kernel
theorem dX8_madeIll_62 : decode cX8_madeIll 62 = .ok (.ior, 1) := by decide +kernel
theorem dX8_madeIll_63 : decode cX8_madeIll 63 = .ok (.istore_n 2, 1) := by decide +kernel
theorem dX8_madeIll_64 : decode cX8_madeIll 64 = .ok (.iinc 3 1, 3) := by decide +kernel
theorem dX8_madeIll_67 : decode cX8_madeIll 67 = .ok (.goto (-61), 3) := by decide +kernel
theorem dX8_madeIll_70 : decode cX8_madeIll 70 = .ok (.iload_n 2, 1) := by decide +kernel
theorem dX8_madeIll_71 : decode cX8_madeIll 71 = .ok (.ireturn, 1) := by decide +kernel
theorem dX8_first_0 : decode cX8_first 0 = .ok (.aload_n 0, 1) := by decide +kernel
theorem dX8_first_1 : decode cX8_first 1 = .ok (.bipush 14, 2) := by decide +kernel
theorem dX8_first_3 : decode cX8_first 3 = .ok (.invokevirtual 169, 3) := by decide +kernel
theorem dX8_first_6 : decode cX8_first 6 = .ok (.istore_n 1, 1) := by decide +kernel
theorem dX8_first_7 : decode cX8_first 7 = .ok (.iconst 0, 1) := by decide +kernel
theorem dX8_first_8 : decode cX8_first 8 = .ok (.istore_n 2, 1) := by decide +kernel
theorem dX8_first_9 : decode cX8_first 9 = .ok (.iconst 0, 1) := by decide +kernel
theorem dX8_first_10 : decode cX8_first 10 = .ok (.istore_n 3, 1) := by decide +kernel
theorem dX8_first_11 : decode cX8_first 11 = .ok (.iload_n 3, 1) := by decide +kernel
theorem dX8_first_12 : decode cX8_first 12 = .ok (.aload_n 0, 1) := by decide +kernel
theorem dX8_first_13 : decode cX8_first 13 = .ok (.getfield 94, 3) := by decide +kernel
theorem dX8_first_16 : decode cX8_first 16 = .ok (.if_icmp .ge 28, 3) := by decide +kernel
theorem dX8_first_19 : decode cX8_first 19 = .ok (.iload_n 2, 1) := by decide +kernel
theorem dX8_first_20 : decode cX8_first 20 = .ok (.aload_n 0, 1) := by decide +kernel
theorem dX8_first_21 : decode cX8_first 21 = .ok (.iload_n 3, 1) := by decide +kernel
theorem dX8_first_22 : decode cX8_first 22 = .ok (.invokevirtual 297, 3) := by decide +kernel
theorem dX8_first_25 : decode cX8_first 25 = .ok (.iload_n 1, 1) := by decide +kernel
theorem dX8_first_26 : decode cX8_first 26 = .ok (.if_icmp .ne 9, 3) := by decide +kernel
theorem dX8_first_29 : decode cX8_first 29 = .ok (.iconst 1, 1) := by decide +kernel
theorem dX8_first_30 : decode cX8_first 30 = .ok (.iload_n 3, 1) := by decide +kernel
theorem dX8_first_31 : decode cX8_first 31 = .ok (.ishl, 1) := by decide +kernel
theorem dX8_first_32 : decode cX8_first 32 = .ok (.goto 4, 3) := by decide +kernel
theorem dX8_first_35 : decode cX8_first 35 = .ok (.iconst 0, 1) := by decide +kernel
theorem dX8_first_36 : decode cX8_first 36 = .ok (.ior, 1) := by decide +kernel
theorem dX8_first_37 : decode cX8_first 37 = .ok (.istore_n 2, 1) := by decide +kernel
theorem dX8_first_38 : decode cX8_first 38 = .ok (.iinc 3 1, 3) := by decide +kernel
theorem dX8_first_41 : decode cX8_first 41 = .ok (.goto (-30), 3) := by decide +kernel
theorem dX8_first_44 : decode cX8_first 44 = .ok (.iload_n 2, 1) := by decide +kernel
theorem dX8_first_45 : decode cX8_first 45 = .ok (.ireturn, 1) := by decide +kernel
theorem dX8_dies_0 : decode cX8_dies 0 = .ok (.iload_n 1, 1) := by decide +kernel
theorem dX8_dies_1 : decode cX8_dies 1 = .ok (.i2l, 1) := by decide +kernel
theorem dX8_dies_2 : decode cX8_dies 2 = .ok (.lconst 0, 1) := by decide +kernel
theorem dX8_dies_3 : decode cX8_dies 3 = .ok (.lconst 1, 1) := by decide +kernel
theorem dX8_dies_4 : decode cX8_dies 4 = .ok (.invokestatic 90, 3) := by decide +kernel
theorem dX8_dies_7 : decode cX8_dies 7 = .ok (.ifCond .ne 6, 3) := by decide +kernel
theorem dX8_dies_10 : decode cX8_dies 10 = .ok (.ldc 99, 2) := by decide +kernel
theorem dX8_dies_12 : decode cX8_dies 12 = .ok (.ireturn, 1) := by decide +kernel
theorem dX8_dies_13 : decode cX8_dies 13 = .ok (.iconst (-1), 1) := by decide +kernel
theorem dX8_dies_14 : decode cX8_dies 14 = .ok (.istore_n 2, 1) := by decide +kernel
theorem dX8_dies_15 : decode cX8_dies 15 = .ok (.iconst 0, 1) := by decide +kernel
theorem dX8_dies_16 : decode cX8_dies 16 = .ok (.istore_n 3, 1) := by decide +kernel
theorem dX8_dies_17 : decode cX8_dies 17 = .ok (.iload_n 3, 1) := by decide +kernel
theorem dX8_dies_18 : decode cX8_dies 18 = .ok (.aload_n 0, 1) := by decide +kernel
theorem dX8_dies_19 : decode cX8_dies 19 = .ok (.getfield 87, 3) := by decide +kernel
theorem dX8_dies_22 : decode cX8_dies 22 = .ok (.if_icmp .ge 78, 3) := by decide +kernel
theorem dX8_dies_25 : decode cX8_dies 25 = .ok (.iload_n 2, 1) := by decide +kernel
theorem dX8_dies_26 : decode cX8_dies 26 = .ok (.ifCond .lt 38, 3) := by decide +kernel
theorem dX8_dies_29 : decode cX8_dies 29 = .ok (.aload_n 0, 1) := by decide +kernel
theorem dX8_dies_30 : decode cX8_dies 30 = .ok (.getfield 7, 3) := by decide +kernel
theorem dX8_dies_33 : decode cX8_dies 33 = .ok (.iload_n 3, 1) := by decide +kernel
theorem dX8_dies_34 : decode cX8_dies 34 = .ok (.iaload, 1) := by decide +kernel
theorem dX8_dies_35 : decode cX8_dies 35 = .ok (.aload_n 0, 1) := by decide +kernel
theorem dX8_dies_36 : decode cX8_dies 36 = .ok (.getfield 16, 3) := by decide +kernel
theorem dX8_dies_39 : decode cX8_dies 39 = .ok (.bipush 21, 2) := by decide +kernel
theorem dX8_dies_41 : decode cX8_dies 41 = .ok (.iload_n 3, 1) := by decide +kernel
theorem dX8_dies_42 : decode cX8_dies 42 = .ok (.iadd, 1) := by decide +kernel
theorem dX8_dies_43 : decode cX8_dies 43 = .ok (.iaload, 1) := by decide +kernel
theorem dX8_dies_44 : decode cX8_dies 44 = .ok (.isub, 1) := by decide +kernel
theorem dX8_dies_45 : decode cX8_dies 45 = .ok (.aload_n 0, 1) := by decide +kernel
theorem dX8_dies_46 : decode cX8_dies 46 = .ok (.getfield 7, 3) := by decide +kernel
theorem dX8_dies_49 : decode cX8_dies 49 = .ok (.iload_n 2, 1) := by decide +kernel
theorem dX8_dies_50 : decode cX8_dies 50 = .ok (.iaload, 1) := by decide +kernel
theorem dX8_dies_51 : decode cX8_dies 51 = .ok (.aload_n 0, 1) := by decide +kernel
theorem dX8_dies_52 : decode cX8_dies 52 = .ok (.getfield 16, 3) := by decide +kernel
theorem dX8_dies_55 : decode cX8_dies 55 = .ok (.bipush 21, 2) := by decide +kernel
theorem dX8_dies_57 : decode cX8_dies 57 = .ok (.iload_n 2, 1) := by decide +kernel
theorem dX8_dies_58 : decode cX8_dies 58 = .ok (.iadd, 1) := by decide +kernel
theorem dX8_dies_59 : decode cX8_dies 59 = .ok (.iaload, 1) := by decide +kernel
theorem dX8_dies_60 : decode cX8_dies 60 = .ok (.isub, 1) := by decide +kernel
theorem dX8_dies_61 : decode cX8_dies 61 = .ok (.if_icmp .ge 7, 3) := by decide +kernel
theorem dX8_dies_64 : decode cX8_dies 64 = .ok (.iconst 1, 1) := by decide +kernel
theorem dX8_dies_65 : decode cX8_dies 65 = .ok (.goto 4, 3) := by decide +kernel
theorem dX8_dies_68 : decode cX8_dies 68 = .ok (.iconst 0, 1) := by decide +kernel
theorem dX8_dies_69 : decode cX8_dies 69 = .ok (.istore 4, 2) := by decide +kernel
theorem dX8_dies_71 : decode cX8_dies 71 = .ok (.aload_n 0, 1) := by decide +kernel
theorem dX8_dies_72 : decode cX8_dies 72 = .ok (.getfield 16, 3) := by decide +kernel
theorem dX8_dies_75 : decode cX8_dies 75 = .ok (.bipush 26, 2) := by decide +kernel
theorem dX8_dies_77 : decode cX8_dies 77 = .ok (.iload_n 3, 1) := by decide +kernel
theorem dX8_dies_78 : decode cX8_dies 78 = .ok (.iadd, 1) := by decide +kernel
theorem dX8_dies_79 : decode cX8_dies 79 = .ok (.iaload, 1) := by decide +kernel
theorem dX8_dies_80 : decode cX8_dies 80 = .ok (.ifCond .ne 12, 3) := by decide +kernel
theorem dX8_dies_83 : decode cX8_dies 83 = .ok (.iload 4, 2) := by decide +kernel
theorem dX8_dies_85 : decode cX8_dies 85 = .ok (.ifCond .eq 7, 3) := by decide +kernel
theorem dX8_dies_88 : decode cX8_dies 88 = .ok (.iload_n 3, 1) := by decide +kernel
theorem dX8_dies_89 : decode cX8_dies 89 = .ok (.goto 4, 3) := by decide +kernel
theorem dX8_dies_92 : decode cX8_dies 92 = .ok (.iload_n 2, 1) := by decide +kernel
theorem dX8_dies_93 : decode cX8_dies 93 = .ok (.istore_n 2, 1) := by decide +kernel
theorem dX8_dies_94 : decode cX8_dies 94 = .ok (.iinc 3 1, 3) := by decide +kernel
theorem dX8_dies_97 : decode cX8_dies 97 = .ok (.goto (-80), 3) := by decide +kernel
theorem dX8_dies_100 : decode cX8_dies 100 = .ok (.iload_n 2, 1) := by decide +kernel
theorem dX8_dies_101 : decode cX8_dies 101 = .ok (.ifCond .lt 7, 3) := by decide +kernel
theorem dX8_dies_104 : decode cX8_dies 104 = .ok (.iload_n 1, 1) := by decide +kernel
theorem dX8_dies_105 : decode cX8_dies 105 = .ok (.ifCond .ne 7, 3) := by decide +kernel
theorem dX8_dies_108 : decode cX8_dies 108 = .ok (.iload_n 2, 1) := by decide +kernel
theorem dX8_dies_109 : decode cX8_dies 109 = .ok (.goto 19, 3) := by decide +kernel
theorem dX8_dies_112 : decode cX8_dies 112 = .ok (.aload_n 0, 1) := by decide +kernel
theorem dX8_dies_113 : decode cX8_dies 113 = .ok (.getfield 7, 3) := by decide +kernel
theorem dX8_dies_116 : decode cX8_dies 116 = .ok (.iload_n 2, 1) := by decide +kernel
theorem dX8_dies_117 : decode cX8_dies 117 = .ok (.iaload, 1) := by decide +kernel
theorem dX8_dies_118 : decode cX8_dies 118 = .ok (.aload_n 0, 1) := by decide +kernel
theorem dX8_dies_119 : decode cX8_dies 119 = .ok (.getfield 16, 3) := by decide +kernel
theorem dX8_dies_122 : decode cX8_dies 122 = .ok (.bipush 21, 2) := by decide +kernel
theorem dX8_dies_124 : decode cX8_dies 124 = .ok (.iload_n 2, 1) := by decide +kernel
theorem dX8_dies_125 : decode cX8_dies 125 = .ok (.iadd, 1) := by decide +kernel
theorem dX8_dies_126 : decode cX8_dies 126 = .ok (.iaload, 1) := by decide +kernel
theorem dX8_dies_127 : decode cX8_dies 127 = .ok (.isub, 1) := by decide +kernel
theorem dX8_dies_128 : decode cX8_dies 128 = .ok (.ireturn, 1) := by decide +kernel
theorem dX8_oilFor_0 : decode cX8_oilFor 0 = .ok (.iload_n 1, 1) := by decide +kernel
theorem dX8_oilFor_1 : decode cX8_oilFor 1 = .ok (.i2l, 1) := by decide +kernel
theorem dX8_oilFor_2 : decode cX8_oilFor 2 = .ok (.lconst 0, 1) := by decide +kernel
theorem dX8_oilFor_3 : decode cX8_oilFor 3 = .ok (.ldc2_w 300, 3) := by decide +kernel
theorem dX8_oilFor_6 : decode cX8_oilFor 6 = .ok (.invokestatic 90, 3) := by decide +kernel
theorem dX8_oilFor_9 : decode cX8_oilFor 9 = .ok (.ifCond .ne 6, 3) := by decide +kernel
theorem dX8_oilFor_12 : decode cX8_oilFor 12 = .ok (.ldc 99, 2) := by decide +kernel
theorem dX8_oilFor_14 : decode cX8_oilFor 14 = .ok (.ireturn, 1) := by decide +kernel
theorem dX8_oilFor_15 : decode cX8_oilFor 15 = .ok (.iconst 0, 1) := by decide +kernel
theorem dX8_oilFor_16 : decode cX8_oilFor 16 = .ok (.istore_n 2, 1) := by decide +kernel
theorem dX8_oilFor_17 : decode cX8_oilFor 17 = .ok (.iconst 0, 1) := by decide +kernel
theorem dX8_oilFor_18 : decode cX8_oilFor 18 = .ok (.istore_n 3, 1) := by decide +kernel
theorem dX8_oilFor_19 : decode cX8_oilFor 19 = .ok (.iload_n 3, 1) := by decide +kernel
theorem dX8_oilFor_20 : decode cX8_oilFor 20 = .ok (.aload_n 0, 1) := by decide +kernel
theorem dX8_oilFor_21 : decode cX8_oilFor 21 = .ok (.getfield 87, 3) := by decide +kernel
theorem dX8_oilFor_24 : decode cX8_oilFor 24 = .ok (.if_icmp .ge 101, 3) := by decide +kernel
theorem dX8_oilFor_27 : decode cX8_oilFor 27 = .ok (.aload_n 0, 1) := by decide +kernel
theorem dX8_oilFor_28 : decode cX8_oilFor 28 = .ok (.getfield 16, 3) := by decide +kernel
theorem dX8_oilFor_31 : decode cX8_oilFor 31 = .ok (.bipush 21, 2) := by decide +kernel
theorem dX8_oilFor_33 : decode cX8_oilFor 33 = .ok (.iload_n 3, 1) := by decide +kernel
theorem dX8_oilFor_34 : decode cX8_oilFor 34 = .ok (.iadd, 1) := by decide +kernel
theorem dX8_oilFor_35 : decode cX8_oilFor 35 = .ok (.iaload, 1) := by decide +kernel
theorem dX8_oilFor_36 : decode cX8_oilFor 36 = .ok (.istore 4, 2) := by decide +kernel
theorem dX8_oilFor_38 : decode cX8_oilFor 38 = .ok (.aload_n 0, 1) := by decide +kernel
theorem dX8_oilFor_39 : decode cX8_oilFor 39 = .ok (.getfield 16, 3) := by decide +kernel
theorem dX8_oilFor_42 : decode cX8_oilFor 42 = .ok (.bipush 26, 2) := by decide +kernel
theorem dX8_oilFor_44 : decode cX8_oilFor 44 = .ok (.iload_n 3, 1) := by decide +kernel
theorem dX8_oilFor_45 : decode cX8_oilFor 45 = .ok (.iadd, 1) := by decide +kernel
theorem dX8_oilFor_46 : decode cX8_oilFor 46 = .ok (.iaload, 1) := by decide +kernel
theorem dX8_oilFor_47 : decode cX8_oilFor 47 = .ok (.iconst 1, 1) := by decide +kernel
theorem dX8_oilFor_48 : decode cX8_oilFor 48 = .ok (.if_icmp .ne 7, 3) := by decide +kernel
theorem dX8_oilFor_51 : decode cX8_oilFor 51 = .ok (.iconst 1, 1) := by decide +kernel
theorem dX8_oilFor_52 : decode cX8_oilFor 52 = .ok (.goto 4, 3) := by decide +kernel
theorem dX8_oilFor_55 : decode cX8_oilFor 55 = .ok (.iconst 0, 1) := by decide +kernel
theorem dX8_oilFor_56 : decode cX8_oilFor 56 = .ok (.istore 5, 2) := by decide +kernel
theorem dX8_oilFor_58 : decode cX8_oilFor 58 = .ok (.iconst 0, 1) := by decide +kernel
theorem dX8_oilFor_59 : decode cX8_oilFor 59 = .ok (.istore 6, 2) := by decide +kernel
theorem dX8_oilFor_61 : decode cX8_oilFor 61 = .ok (.iload 6, 2) := by decide +kernel
theorem dX8_oilFor_63 : decode cX8_oilFor 63 = .ok (.iload_n 1, 1) := by decide +kernel
theorem dX8_oilFor_64 : decode cX8_oilFor 64 = .ok (.if_icmp .ge 55, 3) := by decide +kernel
theorem dX8_oilFor_67 : decode cX8_oilFor 67 = .ok (.iload_n 2, 1) := by decide +kernel
theorem dX8_oilFor_68 : decode cX8_oilFor 68 = .ok (.iload 5, 2) := by decide +kernel
theorem dX8_oilFor_70 : decode cX8_oilFor 70 = .ok (.ifCond .eq 7, 3) := by decide +kernel
theorem dX8_oilFor_73 : decode cX8_oilFor 73 = .ok (.iconst 1, 1) := by decide +kernel
theorem dX8_oilFor_74 : decode cX8_oilFor 74 = .ok (.goto 4, 3) := by decide +kernel
theorem dX8_oilFor_77 : decode cX8_oilFor 77 = .ok (.iconst 0, 1) := by decide +kernel
theorem dX8_oilFor_78 : decode cX8_oilFor 78 = .ok (.iadd, 1) := by decide +kernel
theorem dX8_oilFor_79 : decode cX8_oilFor 79 = .ok (.istore_n 2, 1) := by decide +kernel
theorem dX8_oilFor_80 : decode cX8_oilFor 80 = .ok (.iload 5, 2) := by decide +kernel
theorem dX8_oilFor_82 : decode cX8_oilFor 82 = .ok (.ifCond .eq 7, 3) := by decide +kernel
theorem dX8_oilFor_85 : decode cX8_oilFor 85 = .ok (.iconst 1, 1) := by decide +kernel
theorem dX8_oilFor_86 : decode cX8_oilFor 86 = .ok (.goto 7, 3) := by decide +kernel
theorem dX8_oilFor_89 : decode cX8_oilFor 89 = .ok (.iload 4, 2) := by decide +kernel
theorem dX8_oilFor_91 : decode cX8_oilFor 91 = .ok (.iconst 1, 1) := by decide +kernel
theorem dX8_oilFor_92 : decode cX8_oilFor 92 = .ok (.iadd, 1) := by decide +kernel
theorem dX8_oilFor_93 : decode cX8_oilFor 93 = .ok (.istore 4, 2) := by decide +kernel
theorem dX8_oilFor_95 : decode cX8_oilFor 95 = .ok (.iload 4, 2) := by decide +kernel
theorem dX8_oilFor_97 : decode cX8_oilFor 97 = .ok (.aload_n 0, 1) := by decide +kernel
theorem dX8_oilFor_98 : decode cX8_oilFor 98 = .ok (.getfield 7, 3) := by decide +kernel
theorem dX8_oilFor_101 : decode cX8_oilFor 101 = .ok (.iload_n 3, 1) := by decide +kernel
theorem dX8_oilFor_102 : decode cX8_oilFor 102 = .ok (.iaload, 1) := by decide +kernel
theorem dX8_oilFor_103 : decode cX8_oilFor 103 = .ok (.if_icmp .lt 7, 3) := by decide +kernel
theorem dX8_oilFor_106 : decode cX8_oilFor 106 = .ok (.iconst 1, 1) := by decide +kernel
theorem dX8_oilFor_107 : decode cX8_oilFor 107 = .ok (.goto 4, 3) := by decide +kernel
theorem dX8_oilFor_110 : decode cX8_oilFor 110 = .ok (.iconst 0, 1) := by decide +kernel
theorem dX8_oilFor_111 : decode cX8_oilFor 111 = .ok (.istore 5, 2) := by decide +kernel
theorem dX8_oilFor_113 : decode cX8_oilFor 113 = .ok (.iinc 6 1, 3) := by decide +kernel
theorem dX8_oilFor_116 : decode cX8_oilFor 116 = .ok (.goto (-55), 3) := by decide +kernel
theorem dX8_oilFor_119 : decode cX8_oilFor 119 = .ok (.iinc 3 1, 3) := by decide +kernel
theorem dX8_oilFor_122 : decode cX8_oilFor 122 = .ok (.goto (-103), 3) := by decide +kernel
theorem dX8_oilFor_125 : decode cX8_oilFor 125 = .ok (.iload_n 2, 1) := by decide +kernel
theorem dX8_oilFor_126 : decode cX8_oilFor 126 = .ok (.ireturn, 1) := by decide +kernel
theorem dX8_evening_0 : decode cX8_evening 0 = .ok (.aload_n 0, 1) := by decide +kernel
theorem dX8_evening_1 : decode cX8_evening 1 = .ok (.iload_n 1, 1) := by decide +kernel
theorem dX8_evening_2 : decode cX8_evening 2 = .ok (.invokevirtual 187, 3) := by decide +kernel
theorem dX8_evening_5 : decode cX8_evening 5 = .ok (.ifCond .ne 6, 3) := by decide +kernel
theorem dX8_evening_8 : decode cX8_evening 8 = .ok (.ldc 183, 2) := by decide +kernel
theorem dX8_evening_10 : decode cX8_evening 10 = .ok (.ireturn, 1) := by decide +kernel
theorem dX8_evening_11 : decode cX8_evening 11 = .ok (.aload_n 0, 1) := by decide +kernel
theorem dX8_evening_12 : decode cX8_evening 12 = .ok (.getfield 16, 3) := by decide +kernel
theorem dX8_evening_15 : decode cX8_evening 15 = .ok (.bipush 7, 2) := by decide +kernel
theorem dX8_evening_17 : decode cX8_evening 17 = .ok (.iload_n 1, 1) := by decide +kernel
theorem dX8_evening_18 : decode cX8_evening 18 = .ok (.iadd, 1) := by decide +kernel
theorem dX8_evening_19 : decode cX8_evening 19 = .ok (.iaload, 1) := by decide +kernel
theorem dX8_evening_20 : decode cX8_evening 20 = .ok (.ifCond .ge 6, 3) := by decide +kernel
theorem dX8_evening_23 : decode cX8_evening 23 = .ok (.ldc 209, 2) := by decide +kernel
theorem dX8_evening_25 : decode cX8_evening 25 = .ok (.ireturn, 1) := by decide +kernel
theorem dX8_evening_26 : decode cX8_evening 26 = .ok (.bipush 10, 2) := by decide +kernel
theorem dX8_evening_28 : decode cX8_evening 28 = .ok (.aload_n 0, 1) := by decide +kernel
theorem dX8_evening_29 : decode cX8_evening 29 = .ok (.iload_n 1, 1) := by decide +kernel
theorem dX8_evening_30 : decode cX8_evening 30 = .ok (.invokevirtual 190, 3) := by decide +kernel
theorem dX8_evening_33 : decode cX8_evening 33 = .ok (.aload_n 0, 1) := by decide +kernel
theorem dX8_evening_34 : decode cX8_evening 34 = .ok (.aload_n 0, 1) := by decide +kernel
theorem dX8_evening_35 : decode cX8_evening 35 = .ok (.getfield 16, 3) := by decide +kernel
theorem dX8_evening_38 : decode cX8_evening 38 = .ok (.bipush 7, 2) := by decide +kernel
theorem dX8_evening_40 : decode cX8_evening 40 = .ok (.iload_n 1, 1) := by decide +kernel
theorem dX8_evening_41 : decode cX8_evening 41 = .ok (.iadd, 1) := by decide +kernel
theorem dX8_evening_42 : decode cX8_evening 42 = .ok (.iaload, 1) := by decide +kernel
theorem dX8_evening_43 : decode cX8_evening 43 = .ok (.invokevirtual 184, 3) := by decide +kernel
theorem dX8_evening_46 : decode cX8_evening 46 = .ok (.iand, 1) := by decide +kernel
theorem dX8_evening_47 : decode cX8_evening 47 = .ok (.invokestatic 238, 3) := by decide +kernel
theorem dX8_evening_50 : decode cX8_evening 50 = .ok (.isub, 1) := by decide +kernel
theorem dX8_evening_51 : decode cX8_evening 51 = .ok (.ireturn, 1) := by decide +kernel
theorem dX8_dry_0 : decode cX8_dry 0 = .ok (.iload_n 1, 1) := by decide +kernel
theorem dX8_dry_1 : decode cX8_dry 1 = .ok (.i2l, 1) := by decide +kernel
theorem dX8_dry_2 : decode cX8_dry 2 = .ok (.lconst 0, 1) := by decide +kernel
theorem dX8_dry_3 : decode cX8_dry 3 = .ok (.ldc2_w 207, 3) := by decide +kernel
theorem dX8_dry_6 : decode cX8_dry 6 = .ok (.invokestatic 90, 3) := by decide +kernel
theorem dX8_dry_9 : decode cX8_dry 9 = .ok (.ifCond .eq 15, 3) := by decide +kernel
theorem dX8_dry_12 : decode cX8_dry 12 = .ok (.iload_n 2, 1) := by decide +kernel
theorem dX8_dry_13 : decode cX8_dry 13 = .ok (.i2l, 1) := by decide +kernel
theorem dX8_dry_14 : decode cX8_dry 14 = .ok (.lconst 0, 1) := by decide +kernel
theorem dX8_dry_15 : decode cX8_dry 15 = .ok (.ldc2_w 302, 3) := by decide +kernel
theorem dX8_dry_18 : decode cX8_dry 18 = .ok (.invokestatic 90, 3) := by decide +kernel
theorem dX8_dry_21 : decode cX8_dry 21 = .ok (.ifCond .ne 6, 3) := by decide +kernel
theorem dX8_dry_24 : decode cX8_dry 24 = .ok (.ldc 99, 2) := by decide +kernel
theorem dX8_dry_26 : decode cX8_dry 26 = .ok (.ireturn, 1) := by decide +kernel
theorem dX8_dry_27 : decode cX8_dry 27 = .ok (.ldc2_w 304, 3) := by decide +kernel
theorem dX8_dry_30 : decode cX8_dry 30 = .ok (.lstore_n 3, 1) := by decide +kernel
theorem dX8_dry_31 : decode cX8_dry 31 = .ok (.iconst 0, 1) := by decide +kernel
theorem dX8_dry_32 : decode cX8_dry 32 = .ok (.istore 5, 2) := by decide +kernel
theorem dX8_dry_34 : decode cX8_dry 34 = .ok (.iload 5, 2) := by decide +kernel
theorem dX8_dry_36 : decode cX8_dry 36 = .ok (.iload_n 1, 1) := by decide +kernel
theorem dX8_dry_37 : decode cX8_dry 37 = .ok (.if_icmp .ge 21, 3) := by decide +kernel
theorem dX8_dry_40 : decode cX8_dry 40 = .ok (.lload_n 3, 1) := by decide +kernel
theorem dX8_dry_41 : decode cX8_dry 41 = .ok (.bipush 100, 2) := by decide +kernel
theorem dX8_dry_43 : decode cX8_dry 43 = .ok (.iload_n 2, 1) := by decide +kernel
theorem dX8_dry_44 : decode cX8_dry 44 = .ok (.isub, 1) := by decide +kernel
theorem dX8_dry_45 : decode cX8_dry 45 = .ok (.i2l, 1) := by decide +kernel
theorem dX8_dry_46 : decode cX8_dry 46 = .ok (.lmul, 1) := by decide +kernel
theorem dX8_dry_47 : decode cX8_dry 47 = .ok (.ldc2_w 302, 3) := by decide +kernel
theorem dX8_dry_50 : decode cX8_dry 50 = .ok (.ldiv, 1) := by decide +kernel
theorem dX8_dry_51 : decode cX8_dry 51 = .ok (.lstore_n 3, 1) := by decide +kernel
theorem dX8_dry_52 : decode cX8_dry 52 = .ok (.iinc 5 1, 3) := by decide +kernel
theorem dX8_dry_55 : decode cX8_dry 55 = .ok (.goto (-21), 3) := by decide +kernel
theorem dX8_dry_58 : decode cX8_dry 58 = .ok (.lload_n 3, 1) := by decide +kernel
theorem dX8_dry_59 : decode cX8_dry 59 = .ok (.l2i, 1) := by decide +kernel
theorem dX8_dry_60 : decode cX8_dry 60 = .ok (.ireturn, 1) := by decide +kernel
theorem dX8_ill_0 : decode cX8_ill 0 = .ok (.aload_n 0, 1) := by decide +kernel
theorem dX8_ill_1 : decode cX8_ill 1 = .ok (.iload_n 1, 1) := by decide +kernel
theorem dX8_ill_2 : decode cX8_ill 2 = .ok (.invokevirtual 187, 3) := by decide +kernel
theorem dX8_ill_5 : decode cX8_ill 5 = .ok (.ifCond .ne 6, 3) := by decide +kernel
theorem dX8_ill_8 : decode cX8_ill 8 = .ok (.ldc 183, 2) := by decide +kernel
theorem dX8_ill_10 : decode cX8_ill 10 = .ok (.ireturn, 1) := by decide +kernel
theorem dX8_ill_11 : decode cX8_ill 11 = .ok (.aload_n 0, 1) := by decide +kernel
theorem dX8_ill_12 : decode cX8_ill 12 = .ok (.getfield 153, 3) := by decide +kernel
theorem dX8_ill_15 : decode cX8_ill 15 = .ok (.bipush 6, 2) := by decide +kernel
theorem dX8_ill_17 : decode cX8_ill 17 = .ok (.if_icmp .ne 6, 3) := by decide +kernel
theorem dX8_ill_20 : decode cX8_ill 20 = .ok (.ldc 103, 2) := by decide +kernel
theorem dX8_ill_22 : decode cX8_ill 22 = .ok (.ireturn, 1) := by decide +kernel
theorem dX8_ill_23 : decode cX8_ill 23 = .ok (.aload_n 0, 1) := by decide +kernel
theorem dX8_ill_24 : decode cX8_ill 24 = .ok (.getfield 69, 3) := by decide +kernel
theorem dX8_ill_27 : decode cX8_ill 27 = .ok (.aload_n 0, 1) := by decide +kernel
theorem dX8_ill_28 : decode cX8_ill 28 = .ok (.getfield 153, 3) := by decide +kernel
theorem dX8_ill_31 : decode cX8_ill 31 = .ok (.iload_n 1, 1) := by decide +kernel
theorem dX8_ill_32 : decode cX8_ill 32 = .ok (.iastore, 1) := by decide +kernel
theorem dX8_ill_33 : decode cX8_ill 33 = .ok (.aload_n 0, 1) := by decide +kernel
theorem dX8_ill_34 : decode cX8_ill 34 = .ok (.getfield 72, 3) := by decide +kernel
theorem dX8_ill_37 : decode cX8_ill 37 = .ok (.aload_n 0, 1) := by decide +kernel
theorem dX8_ill_38 : decode cX8_ill 38 = .ok (.getfield 153, 3) := by decide +kernel
theorem dX8_ill_41 : decode cX8_ill 41 = .ok (.iload_n 2, 1) := by decide +kernel
theorem dX8_ill_42 : decode cX8_ill 42 = .ok (.bastore, 1) := by decide +kernel
theorem dX8_ill_43 : decode cX8_ill 43 = .ok (.aload_n 0, 1) := by decide +kernel
theorem dX8_ill_44 : decode cX8_ill 44 = .ok (.dup, 1) := by decide +kernel
theorem dX8_ill_45 : decode cX8_ill 45 = .ok (.getfield 153, 3) := by decide +kernel
theorem dX8_ill_48 : decode cX8_ill 48 = .ok (.iconst 1, 1) := by decide +kernel
theorem dX8_ill_49 : decode cX8_ill 49 = .ok (.iadd, 1) := by decide +kernel
theorem dX8_ill_50 : decode cX8_ill 50 = .ok (.putfield 153, 3) := by decide +kernel
theorem dX8_ill_53 : decode cX8_ill 53 = .ok (.aload_n 0, 1) := by decide +kernel
theorem dX8_ill_54 : decode cX8_ill 54 = .ok (.getfield 153, 3) := by decide +kernel
theorem dX8_ill_57 : decode cX8_ill 57 = .ok (.ireturn, 1) := by decide +kernel
theorem dX8_couldBe_0 : decode cX8_couldBe 0 = .ok (.iconst 0, 1) := by decide +kernel
theorem dX8_couldBe_1 : decode cX8_couldBe 1 = .ok (.istore_n 1, 1) := by decide +kernel
theorem dX8_couldBe_2 : decode cX8_couldBe 2 = .ok (.iconst 0, 1) := by decide +kernel
theorem dX8_couldBe_3 : decode cX8_couldBe 3 = .ok (.istore_n 2, 1) := by decide +kernel
theorem dX8_couldBe_4 : decode cX8_couldBe 4 = .ok (.iload_n 2, 1) := by decide +kernel
theorem dX8_couldBe_5 : decode cX8_couldBe 5 = .ok (.aload_n 0, 1) := by decide +kernel
theorem dX8_couldBe_6 : decode cX8_couldBe 6 = .ok (.getfield 94, 3) := by decide +kernel
theorem dX8_couldBe_9 : decode cX8_couldBe 9 = .ok (.if_icmp .ge 78, 3) := by decide +kernel
theorem dX8_couldBe_12 : decode cX8_couldBe 12 = .ok (.iconst 1, 1) := by decide +kernel
theorem dX8_couldBe_13 : decode cX8_couldBe 13 = .ok (.istore_n 3, 1) := by decide +kernel
theorem dX8_couldBe_14 : decode cX8_couldBe 14 = .ok (.iconst 0, 1) := by decide +kernel
theorem dX8_couldBe_15 : decode cX8_couldBe 15 = .ok (.istore 4, 2) := by decide +kernel
theorem dX8_couldBe_17 : decode cX8_couldBe 17 = .ok (.iload 4, 2) := by decide +kernel
theorem dX8_couldBe_19 : decode cX8_couldBe 19 = .ok (.aload_n 0, 1) := by decide +kernel
theorem dX8_couldBe_20 : decode cX8_couldBe 20 = .ok (.getfield 153, 3) := by decide +kernel
theorem dX8_couldBe_23 : decode cX8_couldBe 23 = .ok (.if_icmp .ge 44, 3) := by decide +kernel
theorem dX8_couldBe_26 : decode cX8_couldBe 26 = .ok (.iload_n 3, 1) := by decide +kernel
theorem dX8_couldBe_27 : decode cX8_couldBe 27 = .ok (.ifCond .eq 32, 3) := by decide +kernel
theorem dX8_couldBe_30 : decode cX8_couldBe 30 = .ok (.aload_n 0, 1) := by decide +kernel
theorem dX8_couldBe_31 : decode cX8_couldBe 31 = .ok (.iload_n 2, 1) := by decide +kernel
theorem dX8_couldBe_32 : decode cX8_couldBe 32 = .ok (.invokevirtual 297, 3) := by decide +kernel
theorem dX8_couldBe_35 : decode cX8_couldBe 35 = .ok (.aload_n 0, 1) := by decide +kernel
theorem dX8_couldBe_36 : decode cX8_couldBe 36 = .ok (.getfield 69, 3) := by decide +kernel
theorem dX8_couldBe_39 : decode cX8_couldBe 39 = .ok (.iload 4, 2) := by decide +kernel
theorem dX8_couldBe_41 : decode cX8_couldBe 41 = .ok (.iaload, 1) := by decide +kernel
theorem dX8_couldBe_42 : decode cX8_couldBe 42 = .ok (.invokestatic 269, 3) := by decide +kernel
theorem dX8_couldBe_45 : decode cX8_couldBe 45 = .ok (.aload_n 0, 1) := by decide +kernel
theorem dX8_couldBe_46 : decode cX8_couldBe 46 = .ok (.getfield 72, 3) := by decide +kernel
theorem dX8_couldBe_49 : decode cX8_couldBe 49 = .ok (.iload 4, 2) := by decide +kernel
theorem dX8_couldBe_51 : decode cX8_couldBe 51 = .ok (.baload, 1) := by decide +kernel
theorem dX8_couldBe_52 : decode cX8_couldBe 52 = .ok (.if_icmp .ne 7, 3) := by decide +kernel
theorem dX8_couldBe_55 : decode cX8_couldBe 55 = .ok (.iconst 1, 1) := by decide +kernel
theorem dX8_couldBe_56 : decode cX8_couldBe 56 = .ok (.goto 4, 3) := by decide +kernel
theorem dX8_couldBe_59 : decode cX8_couldBe 59 = .ok (.iconst 0, 1) := by decide +kernel
theorem dX8_couldBe_60 : decode cX8_couldBe 60 = .ok (.istore_n 3, 1) := by decide +kernel
theorem dX8_couldBe_61 : decode cX8_couldBe 61 = .ok (.iinc 4 1, 3) := by decide +kernel
theorem dX8_couldBe_64 : decode cX8_couldBe 64 = .ok (.goto (-47), 3) := by decide +kernel
theorem dX8_couldBe_67 : decode cX8_couldBe 67 = .ok (.iload_n 1, 1) := by decide +kernel
theorem dX8_couldBe_68 : decode cX8_couldBe 68 = .ok (.iload_n 3, 1) := by decide +kernel
theorem dX8_couldBe_69 : decode cX8_couldBe 69 = .ok (.ifCond .eq 9, 3) := by decide +kernel
theorem dX8_couldBe_72 : decode cX8_couldBe 72 = .ok (.iconst 1, 1) := by decide +kernel
theorem dX8_couldBe_73 : decode cX8_couldBe 73 = .ok (.iload_n 2, 1) := by decide +kernel
theorem dX8_couldBe_74 : decode cX8_couldBe 74 = .ok (.ishl, 1) := by decide +kernel
theorem dX8_couldBe_75 : decode cX8_couldBe 75 = .ok (.goto 4, 3) := by decide +kernel
theorem dX8_couldBe_78 : decode cX8_couldBe 78 = .ok (.iconst 0, 1) := by decide +kernel
theorem dX8_couldBe_79 : decode cX8_couldBe 79 = .ok (.ior, 1) := by decide +kernel
theorem dX8_couldBe_80 : decode cX8_couldBe 80 = .ok (.istore_n 1, 1) := by decide +kernel
theorem dX8_couldBe_81 : decode cX8_couldBe 81 = .ok (.iinc 2 1, 3) := by decide +kernel
theorem dX8_couldBe_84 : decode cX8_couldBe 84 = .ok (.goto (-80), 3) := by decide +kernel
theorem dX8_couldBe_87 : decode cX8_couldBe 87 = .ok (.iload_n 1, 1) := by decide +kernel
theorem dX8_couldBe_88 : decode cX8_couldBe 88 = .ok (.ireturn, 1) := by decide +kernel
theorem dX8_mayBe_0 : decode cX8_mayBe 0 = .ok (.aload_n 0, 1) := by decide +kernel
theorem dX8_mayBe_1 : decode cX8_mayBe 1 = .ok (.invokevirtual 306, 3) := by decide +kernel
theorem dX8_mayBe_4 : decode cX8_mayBe 4 = .ok (.ireturn, 1) := by decide +kernel
theorem dX8_ask_0 : decode cX8_ask 0 = .ok (.aload_n 0, 1) := by decide +kernel
theorem dX8_ask_1 : decode cX8_ask 1 = .ok (.invokevirtual 306, 3) := by decide +kernel
theorem dX8_ask_4 : decode cX8_ask 4 = .ok (.istore_n 1, 1) := by decide +kernel
theorem dX8_ask_5 : decode cX8_ask 5 = .ok (.iload_n 1, 1) := by decide +kernel
theorem dX8_ask_6 : decode cX8_ask 6 = .ok (.invokestatic 238, 3) := by decide +kernel
theorem dX8_ask_9 : decode cX8_ask 9 = .ok (.istore_n 2, 1) := by decide +kernel
theorem dX8_ask_10 : decode cX8_ask 10 = .ok (.iconst (-1), 1) := by decide +kernel
theorem dX8_ask_11 : decode cX8_ask 11 = .ok (.istore_n 3, 1) := by decide +kernel
theorem dX8_ask_12 : decode cX8_ask 12 = .ok (.iload_n 2, 1) := by decide +kernel
theorem dX8_ask_13 : decode cX8_ask 13 = .ok (.istore 4, 2) := by decide +kernel
theorem dX8_ask_15 : decode cX8_ask 15 = .ok (.iconst 0, 1) := by decide +kernel
theorem dX8_ask_16 : decode cX8_ask 16 = .ok (.istore 5, 2) := by decide +kernel
theorem dX8_ask_18 : decode cX8_ask 18 = .ok (.iload 5, 2) := by decide +kernel
theorem dX8_ask_20 : decode cX8_ask 20 = .ok (.aload_n 0, 1) := by decide +kernel
theorem dX8_ask_21 : decode cX8_ask 21 = .ok (.getfield 94, 3) := by decide +kernel
theorem dX8_ask_24 : decode cX8_ask 24 = .ok (.if_icmp .ge 113, 3) := by decide +kernel
theorem dX8_ask_27 : decode cX8_ask 27 = .ok (.iconst 0, 1) := by decide +kernel
theorem dX8_ask_28 : decode cX8_ask 28 = .ok (.istore 6, 2) := by decide +kernel
theorem dX8_ask_30 : decode cX8_ask 30 = .ok (.iconst 0, 1) := by decide +kernel
theorem dX8_ask_31 : decode cX8_ask 31 = .ok (.istore 7, 2) := by decide +kernel
theorem dX8_ask_33 : decode cX8_ask 33 = .ok (.iload 7, 2) := by decide +kernel
theorem dX8_ask_35 : decode cX8_ask 35 = .ok (.aload_n 0, 1) := by decide +kernel
theorem dX8_ask_36 : decode cX8_ask 36 = .ok (.getfield 94, 3) := by decide +kernel
theorem dX8_ask_39 : decode cX8_ask 39 = .ok (.if_icmp .ge 42, 3) := by decide +kernel
theorem dX8_ask_42 : decode cX8_ask 42 = .ok (.iload 6, 2) := by decide +kernel
theorem dX8_ask_44 : decode cX8_ask 44 = .ok (.iload_n 1, 1) := by decide +kernel
theorem dX8_ask_45 : decode cX8_ask 45 = .ok (.iload 7, 2) := by decide +kernel
theorem dX8_ask_47 : decode cX8_ask 47 = .ok (.invokestatic 269, 3) := by decide +kernel
theorem dX8_ask_50 : decode cX8_ask 50 = .ok (.ifCond .eq 21, 3) := by decide +kernel
theorem dX8_ask_53 : decode cX8_ask 53 = .ok (.aload_n 0, 1) := by decide +kernel
theorem dX8_ask_54 : decode cX8_ask 54 = .ok (.iload 7, 2) := by decide +kernel
theorem dX8_ask_56 : decode cX8_ask 56 = .ok (.invokevirtual 297, 3) := by decide +kernel
theorem dX8_ask_59 : decode cX8_ask 59 = .ok (.iload 5, 2) := by decide +kernel
theorem dX8_ask_61 : decode cX8_ask 61 = .ok (.invokestatic 269, 3) := by decide +kernel
theorem dX8_ask_64 : decode cX8_ask 64 = .ok (.ifCond .eq 7, 3) := by decide +kernel
theorem dX8_ask_67 : decode cX8_ask 67 = .ok (.iconst 1, 1) := by decide +kernel
end
section
theorem dX8_ask_68 : decode cX8_ask 68 = .ok (.goto 4, 3) := by decide +kernel
theorem dX8_ask_71 : decode cX8_ask 71 = .ok (.iconst 0, 1) := by decide +kernel
theorem dX8_ask_72 : decode cX8_ask 72 = .ok (.iadd, 1) := by decide +kernel
theorem dX8_ask_73 : decode cX8_ask 73 = .ok (.istore 6, 2) := by decide +kernel
theorem dX8_ask_75 : decode cX8_ask 75 = .ok (.iinc 7 1, 3) := by decide +kernel
theorem dX8_ask_78 : decode cX8_ask 78 = .ok (.goto (-45), 3) := by decide +kernel
theorem dX8_ask_81 : decode cX8_ask 81 = .ok (.iload 6, 2) := by decide +kernel
theorem dX8_ask_83 : decode cX8_ask 83 = .ok (.iload_n 2, 1) := by decide +kernel
theorem dX8_ask_84 : decode cX8_ask 84 = .ok (.iload 6, 2) := by decide +kernel
theorem dX8_ask_86 : decode cX8_ask 86 = .ok (.isub, 1) := by decide +kernel
theorem dX8_ask_87 : decode cX8_ask 87 = .ok (.if_icmp .le 8, 3) := by decide +kernel
theorem dX8_ask_90 : decode cX8_ask 90 = .ok (.iload 6, 2) := by decide +kernel
theorem dX8_ask_92 : decode cX8_ask 92 = .ok (.goto 7, 3) := by decide +kernel
theorem dX8_ask_95 : decode cX8_ask 95 = .ok (.iload_n 2, 1) := by decide +kernel
theorem dX8_ask_96 : decode cX8_ask 96 = .ok (.iload 6, 2) := by decide +kernel
theorem dX8_ask_98 : decode cX8_ask 98 = .ok (.isub, 1) := by decide +kernel
theorem dX8_ask_99 : decode cX8_ask 99 = .ok (.istore 7, 2) := by decide +kernel
theorem dX8_ask_101 : decode cX8_ask 101 = .ok (.iload 7, 2) := by decide +kernel
theorem dX8_ask_103 : decode cX8_ask 103 = .ok (.iload 4, 2) := by decide +kernel
theorem dX8_ask_105 : decode cX8_ask 105 = .ok (.if_icmp .ge 8, 3) := by decide +kernel
theorem dX8_ask_108 : decode cX8_ask 108 = .ok (.iload 5, 2) := by decide +kernel
theorem dX8_ask_110 : decode cX8_ask 110 = .ok (.goto 4, 3) := by decide +kernel
theorem dX8_ask_113 : decode cX8_ask 113 = .ok (.iload_n 3, 1) := by decide +kernel
theorem dX8_ask_114 : decode cX8_ask 114 = .ok (.istore_n 3, 1) := by decide +kernel
theorem dX8_ask_115 : decode cX8_ask 115 = .ok (.iload 7, 2) := by decide +kernel
theorem dX8_ask_117 : decode cX8_ask 117 = .ok (.iload 4, 2) := by decide +kernel
theorem dX8_ask_119 : decode cX8_ask 119 = .ok (.if_icmp .ge 8, 3) := by decide +kernel
theorem dX8_ask_122 : decode cX8_ask 122 = .ok (.iload 7, 2) := by decide +kernel
theorem dX8_ask_124 : decode cX8_ask 124 = .ok (.goto 5, 3) := by decide +kernel
theorem dX8_ask_127 : decode cX8_ask 127 = .ok (.iload 4, 2) := by decide +kernel
theorem dX8_ask_129 : decode cX8_ask 129 = .ok (.istore 4, 2) := by decide +kernel
theorem dX8_ask_131 : decode cX8_ask 131 = .ok (.iinc 5 1, 3) := by decide +kernel
theorem dX8_ask_134 : decode cX8_ask 134 = .ok (.goto (-116), 3) := by decide +kernel
theorem dX8_ask_137 : decode cX8_ask 137 = .ok (.iload_n 3, 1) := by decide +kernel
theorem dX8_ask_138 : decode cX8_ask 138 = .ok (.ireturn, 1) := by decide +kernel
theorem dX8_write_0 : decode cX8_write 0 = .ok (.aload_n 0, 1) := by decide +kernel
theorem dX8_write_1 : decode cX8_write 1 = .ok (.iload_n 1, 1) := by decide +kernel
theorem dX8_write_2 : decode cX8_write 2 = .ok (.invokevirtual 187, 3) := by decide +kernel
theorem dX8_write_5 : decode cX8_write 5 = .ok (.ifCond .ne 6, 3) := by decide +kernel
theorem dX8_write_8 : decode cX8_write 8 = .ok (.ldc 183, 2) := by decide +kernel
theorem dX8_write_10 : decode cX8_write 10 = .ok (.ireturn, 1) := by decide +kernel
theorem dX8_write_11 : decode cX8_write 11 = .ok (.iload_n 2, 1) := by decide +kernel
theorem dX8_write_12 : decode cX8_write 12 = .ok (.i2l, 1) := by decide +kernel
theorem dX8_write_13 : decode cX8_write 13 = .ok (.lconst 0, 1) := by decide +kernel
theorem dX8_write_14 : decode cX8_write 14 = .ok (.lconst 1, 1) := by decide +kernel
theorem dX8_write_15 : decode cX8_write 15 = .ok (.invokestatic 90, 3) := by decide +kernel
theorem dX8_write_18 : decode cX8_write 18 = .ok (.ifCond .ne 6, 3) := by decide +kernel
theorem dX8_write_21 : decode cX8_write 21 = .ok (.ldc 99, 2) := by decide +kernel
theorem dX8_write_23 : decode cX8_write 23 = .ok (.ireturn, 1) := by decide +kernel
theorem dX8_write_24 : decode cX8_write 24 = .ok (.aload_n 0, 1) := by decide +kernel
theorem dX8_write_25 : decode cX8_write 25 = .ok (.getfield 156, 3) := by decide +kernel
theorem dX8_write_28 : decode cX8_write 28 = .ok (.bipush 15, 2) := by decide +kernel
theorem dX8_write_30 : decode cX8_write 30 = .ok (.if_icmp .ne 6, 3) := by decide +kernel
theorem dX8_write_33 : decode cX8_write 33 = .ok (.ldc 103, 2) := by decide +kernel
theorem dX8_write_35 : decode cX8_write 35 = .ok (.ireturn, 1) := by decide +kernel
theorem dX8_write_36 : decode cX8_write 36 = .ok (.aload_n 0, 1) := by decide +kernel
theorem dX8_write_37 : decode cX8_write 37 = .ok (.getfield 75, 3) := by decide +kernel
theorem dX8_write_40 : decode cX8_write 40 = .ok (.aload_n 0, 1) := by decide +kernel
theorem dX8_write_41 : decode cX8_write 41 = .ok (.getfield 156, 3) := by decide +kernel
theorem dX8_write_44 : decode cX8_write 44 = .ok (.iload_n 1, 1) := by decide +kernel
theorem dX8_write_45 : decode cX8_write 45 = .ok (.iastore, 1) := by decide +kernel
theorem dX8_write_46 : decode cX8_write 46 = .ok (.aload_n 0, 1) := by decide +kernel
theorem dX8_write_47 : decode cX8_write 47 = .ok (.getfield 78, 3) := by decide +kernel
theorem dX8_write_50 : decode cX8_write 50 = .ok (.aload_n 0, 1) := by decide +kernel
theorem dX8_write_51 : decode cX8_write 51 = .ok (.getfield 156, 3) := by decide +kernel
theorem dX8_write_54 : decode cX8_write 54 = .ok (.iload_n 2, 1) := by decide +kernel
theorem dX8_write_55 : decode cX8_write 55 = .ok (.iastore, 1) := by decide +kernel
theorem dX8_write_56 : decode cX8_write 56 = .ok (.aload_n 0, 1) := by decide +kernel
theorem dX8_write_57 : decode cX8_write 57 = .ok (.dup, 1) := by decide +kernel
theorem dX8_write_58 : decode cX8_write 58 = .ok (.getfield 156, 3) := by decide +kernel
theorem dX8_write_61 : decode cX8_write 61 = .ok (.iconst 1, 1) := by decide +kernel
theorem dX8_write_62 : decode cX8_write 62 = .ok (.iadd, 1) := by decide +kernel
theorem dX8_write_63 : decode cX8_write 63 = .ok (.putfield 156, 3) := by decide +kernel
theorem dX8_write_66 : decode cX8_write 66 = .ok (.aload_n 0, 1) := by decide +kernel
theorem dX8_write_67 : decode cX8_write 67 = .ok (.getfield 156, 3) := by decide +kernel
theorem dX8_write_70 : decode cX8_write 70 = .ok (.ireturn, 1) := by decide +kernel
theorem dX8_tear_0 : decode cX8_tear 0 = .ok (.aload_n 0, 1) := by decide +kernel
theorem dX8_tear_1 : decode cX8_tear 1 = .ok (.getfield 153, 3) := by decide +kernel
theorem dX8_tear_4 : decode cX8_tear 4 = .ok (.aload_n 0, 1) := by decide +kernel
theorem dX8_tear_5 : decode cX8_tear 5 = .ok (.getfield 156, 3) := by decide +kernel
theorem dX8_tear_8 : decode cX8_tear 8 = .ok (.iadd, 1) := by decide +kernel
theorem dX8_tear_9 : decode cX8_tear 9 = .ok (.istore_n 1, 1) := by decide +kernel
theorem dX8_tear_10 : decode cX8_tear 10 = .ok (.aload_n 0, 1) := by decide +kernel
theorem dX8_tear_11 : decode cX8_tear 11 = .ok (.iconst 0, 1) := by decide +kernel
theorem dX8_tear_12 : decode cX8_tear 12 = .ok (.putfield 153, 3) := by decide +kernel
theorem dX8_tear_15 : decode cX8_tear 15 = .ok (.aload_n 0, 1) := by decide +kernel
theorem dX8_tear_16 : decode cX8_tear 16 = .ok (.iconst 0, 1) := by decide +kernel
theorem dX8_tear_17 : decode cX8_tear 17 = .ok (.putfield 156, 3) := by decide +kernel
theorem dX8_tear_20 : decode cX8_tear 20 = .ok (.iload_n 1, 1) := by decide +kernel
theorem dX8_tear_21 : decode cX8_tear 21 = .ok (.ireturn, 1) := by decide +kernel
theorem dX8_judge_0 : decode cX8_judge 0 = .ok (.iconst 0, 1) := by decide +kernel
theorem dX8_judge_1 : decode cX8_judge 1 = .ok (.istore_n 1, 1) := by decide +kernel
theorem dX8_judge_2 : decode cX8_judge 2 = .ok (.iload_n 1, 1) := by decide +kernel
theorem dX8_judge_3 : decode cX8_judge 3 = .ok (.aload_n 0, 1) := by decide +kernel
theorem dX8_judge_4 : decode cX8_judge 4 = .ok (.getfield 156, 3) := by decide +kernel
theorem dX8_judge_7 : decode cX8_judge 7 = .ok (.if_icmp .ge 31, 3) := by decide +kernel
theorem dX8_judge_10 : decode cX8_judge 10 = .ok (.aload_n 0, 1) := by decide +kernel
theorem dX8_judge_11 : decode cX8_judge 11 = .ok (.getfield 16, 3) := by decide +kernel
theorem dX8_judge_14 : decode cX8_judge 14 = .ok (.aload_n 0, 1) := by decide +kernel
theorem dX8_judge_15 : decode cX8_judge 15 = .ok (.getfield 75, 3) := by decide +kernel
theorem dX8_judge_18 : decode cX8_judge 18 = .ok (.iload_n 1, 1) := by decide +kernel
theorem dX8_judge_19 : decode cX8_judge 19 = .ok (.iaload, 1) := by decide +kernel
theorem dX8_judge_20 : decode cX8_judge 20 = .ok (.iaload, 1) := by decide +kernel
theorem dX8_judge_21 : decode cX8_judge 21 = .ok (.aload_n 0, 1) := by decide +kernel
theorem dX8_judge_22 : decode cX8_judge 22 = .ok (.getfield 78, 3) := by decide +kernel
theorem dX8_judge_25 : decode cX8_judge 25 = .ok (.iload_n 1, 1) := by decide +kernel
theorem dX8_judge_26 : decode cX8_judge 26 = .ok (.iaload, 1) := by decide +kernel
theorem dX8_judge_27 : decode cX8_judge 27 = .ok (.if_icmp .eq 5, 3) := by decide +kernel
theorem dX8_judge_30 : decode cX8_judge 30 = .ok (.iload_n 1, 1) := by decide +kernel
theorem dX8_judge_31 : decode cX8_judge 31 = .ok (.ireturn, 1) := by decide +kernel
theorem dX8_judge_32 : decode cX8_judge 32 = .ok (.iinc 1 1, 3) := by decide +kernel
theorem dX8_judge_35 : decode cX8_judge 35 = .ok (.goto (-33), 3) := by decide +kernel
theorem dX8_judge_38 : decode cX8_judge 38 = .ok (.iconst (-1), 1) := by decide +kernel
theorem dX8_judge_39 : decode cX8_judge 39 = .ok (.ireturn, 1) := by decide +kernel
theorem dX8_seed_0 : decode cX8_seed 0 = .ok (.iload_n 1, 1) := by decide +kernel
theorem dX8_seed_1 : decode cX8_seed 1 = .ok (.ifCond .ge 6, 3) := by decide +kernel
theorem dX8_seed_4 : decode cX8_seed 4 = .ok (.ldc 99, 2) := by decide +kernel
theorem dX8_seed_6 : decode cX8_seed 6 = .ok (.ireturn, 1) := by decide +kernel
theorem dX8_seed_7 : decode cX8_seed 7 = .ok (.aload_n 0, 1) := by decide +kernel
theorem dX8_seed_8 : decode cX8_seed 8 = .ok (.getfield 222, 3) := by decide +kernel
theorem dX8_seed_11 : decode cX8_seed 11 = .ok (.istore_n 2, 1) := by decide +kernel
theorem dX8_seed_12 : decode cX8_seed 12 = .ok (.aload_n 0, 1) := by decide +kernel
theorem dX8_seed_13 : decode cX8_seed 13 = .ok (.iload_n 1, 1) := by decide +kernel
theorem dX8_seed_14 : decode cX8_seed 14 = .ok (.putfield 222, 3) := by decide +kernel
theorem dX8_seed_17 : decode cX8_seed 17 = .ok (.iload_n 2, 1) := by decide +kernel
theorem dX8_seed_18 : decode cX8_seed 18 = .ok (.ireturn, 1) := by decide +kernel
theorem dX8_keep_0 : decode cX8_keep 0 = .ok (.iload_n 1, 1) := by decide +kernel
theorem dX8_keep_1 : decode cX8_keep 1 = .ok (.i2l, 1) := by decide +kernel
theorem dX8_keep_2 : decode cX8_keep 2 = .ok (.lconst 0, 1) := by decide +kernel
theorem dX8_keep_3 : decode cX8_keep 3 = .ok (.lconst 1, 1) := by decide +kernel
theorem dX8_keep_4 : decode cX8_keep 4 = .ok (.invokestatic 90, 3) := by decide +kernel
theorem dX8_keep_7 : decode cX8_keep 7 = .ok (.ifCond .ne 6, 3) := by decide +kernel
theorem dX8_keep_10 : decode cX8_keep 10 = .ok (.ldc 183, 2) := by decide +kernel
theorem dX8_keep_12 : decode cX8_keep 12 = .ok (.ireturn, 1) := by decide +kernel
theorem dX8_keep_13 : decode cX8_keep 13 = .ok (.iconst 0, 1) := by decide +kernel
theorem dX8_keep_14 : decode cX8_keep 14 = .ok (.istore_n 2, 1) := by decide +kernel
theorem dX8_keep_15 : decode cX8_keep 15 = .ok (.iload_n 2, 1) := by decide +kernel
theorem dX8_keep_16 : decode cX8_keep 16 = .ok (.bipush 55, 2) := by decide +kernel
theorem dX8_keep_18 : decode cX8_keep 18 = .ok (.if_icmp .ge 26, 3) := by decide +kernel
theorem dX8_keep_21 : decode cX8_keep 21 = .ok (.aload_n 0, 1) := by decide +kernel
theorem dX8_keep_22 : decode cX8_keep 22 = .ok (.getfield 81, 3) := by decide +kernel
theorem dX8_keep_25 : decode cX8_keep 25 = .ok (.bipush 56, 2) := by decide +kernel
theorem dX8_keep_27 : decode cX8_keep 27 = .ok (.iload_n 1, 1) := by decide +kernel
theorem dX8_keep_28 : decode cX8_keep 28 = .ok (.imul, 1) := by decide +kernel
theorem dX8_keep_29 : decode cX8_keep 29 = .ok (.iload_n 2, 1) := by decide +kernel
theorem dX8_keep_30 : decode cX8_keep 30 = .ok (.iadd, 1) := by decide +kernel
theorem dX8_keep_31 : decode cX8_keep 31 = .ok (.aload_n 0, 1) := by decide +kernel
theorem dX8_keep_32 : decode cX8_keep 32 = .ok (.getfield 16, 3) := by decide +kernel
theorem dX8_keep_35 : decode cX8_keep 35 = .ok (.iload_n 2, 1) := by decide +kernel
theorem dX8_keep_36 : decode cX8_keep 36 = .ok (.iaload, 1) := by decide +kernel
theorem dX8_keep_37 : decode cX8_keep 37 = .ok (.iastore, 1) := by decide +kernel
theorem dX8_keep_38 : decode cX8_keep 38 = .ok (.iinc 2 1, 3) := by decide +kernel
theorem dX8_keep_41 : decode cX8_keep 41 = .ok (.goto (-26), 3) := by decide +kernel
theorem dX8_keep_44 : decode cX8_keep 44 = .ok (.aload_n 0, 1) := by decide +kernel
theorem dX8_keep_45 : decode cX8_keep 45 = .ok (.getfield 81, 3) := by decide +kernel
theorem dX8_keep_48 : decode cX8_keep 48 = .ok (.bipush 56, 2) := by decide +kernel
theorem dX8_keep_50 : decode cX8_keep 50 = .ok (.iload_n 1, 1) := by decide +kernel
theorem dX8_keep_51 : decode cX8_keep 51 = .ok (.imul, 1) := by decide +kernel
theorem dX8_keep_52 : decode cX8_keep 52 = .ok (.bipush 55, 2) := by decide +kernel
theorem dX8_keep_54 : decode cX8_keep 54 = .ok (.iadd, 1) := by decide +kernel
theorem dX8_keep_55 : decode cX8_keep 55 = .ok (.aload_n 0, 1) := by decide +kernel
theorem dX8_keep_56 : decode cX8_keep 56 = .ok (.getfield 222, 3) := by decide +kernel
theorem dX8_keep_59 : decode cX8_keep 59 = .ok (.iastore, 1) := by decide +kernel
theorem dX8_keep_60 : decode cX8_keep 60 = .ok (.aload_n 0, 1) := by decide +kernel
theorem dX8_keep_61 : decode cX8_keep 61 = .ok (.getfield 84, 3) := by decide +kernel
theorem dX8_keep_64 : decode cX8_keep 64 = .ok (.iload_n 1, 1) := by decide +kernel
theorem dX8_keep_65 : decode cX8_keep 65 = .ok (.iconst 1, 1) := by decide +kernel
theorem dX8_keep_66 : decode cX8_keep 66 = .ok (.bastore, 1) := by decide +kernel
theorem dX8_keep_67 : decode cX8_keep 67 = .ok (.aload_n 0, 1) := by decide +kernel
theorem dX8_keep_68 : decode cX8_keep 68 = .ok (.iconst 0, 1) := by decide +kernel
theorem dX8_keep_69 : decode cX8_keep 69 = .ok (.putfield 159, 3) := by decide +kernel
theorem dX8_keep_72 : decode cX8_keep 72 = .ok (.iconst 1, 1) := by decide +kernel
theorem dX8_keep_73 : decode cX8_keep 73 = .ok (.ireturn, 1) := by decide +kernel
theorem dX8_goBack_0 : decode cX8_goBack 0 = .ok (.iload_n 1, 1) := by decide +kernel
theorem dX8_goBack_1 : decode cX8_goBack 1 = .ok (.i2l, 1) := by decide +kernel
theorem dX8_goBack_2 : decode cX8_goBack 2 = .ok (.lconst 0, 1) := by decide +kernel
theorem dX8_goBack_3 : decode cX8_goBack 3 = .ok (.lconst 1, 1) := by decide +kernel
theorem dX8_goBack_4 : decode cX8_goBack 4 = .ok (.invokestatic 90, 3) := by decide +kernel
theorem dX8_goBack_7 : decode cX8_goBack 7 = .ok (.ifCond .ne 6, 3) := by decide +kernel
theorem dX8_goBack_10 : decode cX8_goBack 10 = .ok (.ldc 183, 2) := by decide +kernel
theorem dX8_goBack_12 : decode cX8_goBack 12 = .ok (.ireturn, 1) := by decide +kernel
theorem dX8_goBack_13 : decode cX8_goBack 13 = .ok (.aload_n 0, 1) := by decide +kernel
theorem dX8_goBack_14 : decode cX8_goBack 14 = .ok (.getfield 84, 3) := by decide +kernel
theorem dX8_goBack_17 : decode cX8_goBack 17 = .ok (.iload_n 1, 1) := by decide +kernel
theorem dX8_goBack_18 : decode cX8_goBack 18 = .ok (.baload, 1) := by decide +kernel
theorem dX8_goBack_19 : decode cX8_goBack 19 = .ok (.ifCond .ne 6, 3) := by decide +kernel
theorem dX8_goBack_22 : decode cX8_goBack 22 = .ok (.ldc 209, 2) := by decide +kernel
theorem dX8_goBack_24 : decode cX8_goBack 24 = .ok (.ireturn, 1) := by decide +kernel
theorem dX8_goBack_25 : decode cX8_goBack 25 = .ok (.iconst 0, 1) := by decide +kernel
theorem dX8_goBack_26 : decode cX8_goBack 26 = .ok (.istore_n 2, 1) := by decide +kernel
theorem dX8_goBack_27 : decode cX8_goBack 27 = .ok (.iload_n 2, 1) := by decide +kernel
theorem dX8_goBack_28 : decode cX8_goBack 28 = .ok (.bipush 55, 2) := by decide +kernel
theorem dX8_goBack_30 : decode cX8_goBack 30 = .ok (.if_icmp .ge 26, 3) := by decide +kernel
theorem dX8_goBack_33 : decode cX8_goBack 33 = .ok (.aload_n 0, 1) := by decide +kernel
theorem dX8_goBack_34 : decode cX8_goBack 34 = .ok (.getfield 16, 3) := by decide +kernel
theorem dX8_goBack_37 : decode cX8_goBack 37 = .ok (.iload_n 2, 1) := by decide +kernel
theorem dX8_goBack_38 : decode cX8_goBack 38 = .ok (.aload_n 0, 1) := by decide +kernel
theorem dX8_goBack_39 : decode cX8_goBack 39 = .ok (.getfield 81, 3) := by decide +kernel
theorem dX8_goBack_42 : decode cX8_goBack 42 = .ok (.bipush 56, 2) := by decide +kernel
theorem dX8_goBack_44 : decode cX8_goBack 44 = .ok (.iload_n 1, 1) := by decide +kernel
theorem dX8_goBack_45 : decode cX8_goBack 45 = .ok (.imul, 1) := by decide +kernel
theorem dX8_goBack_46 : decode cX8_goBack 46 = .ok (.iload_n 2, 1) := by decide +kernel
theorem dX8_goBack_47 : decode cX8_goBack 47 = .ok (.iadd, 1) := by decide +kernel
theorem dX8_goBack_48 : decode cX8_goBack 48 = .ok (.iaload, 1) := by decide +kernel
theorem dX8_goBack_49 : decode cX8_goBack 49 = .ok (.iastore, 1) := by decide +kernel
theorem dX8_goBack_50 : decode cX8_goBack 50 = .ok (.iinc 2 1, 3) := by decide +kernel
theorem dX8_goBack_53 : decode cX8_goBack 53 = .ok (.goto (-26), 3) := by decide +kernel
theorem dX8_goBack_56 : decode cX8_goBack 56 = .ok (.aload_n 0, 1) := by decide +kernel
theorem dX8_goBack_57 : decode cX8_goBack 57 = .ok (.aload_n 0, 1) := by decide +kernel
theorem dX8_goBack_58 : decode cX8_goBack 58 = .ok (.getfield 81, 3) := by decide +kernel
theorem dX8_goBack_61 : decode cX8_goBack 61 = .ok (.bipush 56, 2) := by decide +kernel
theorem dX8_goBack_63 : decode cX8_goBack 63 = .ok (.iload_n 1, 1) := by decide +kernel
theorem dX8_goBack_64 : decode cX8_goBack 64 = .ok (.imul, 1) := by decide +kernel
theorem dX8_goBack_65 : decode cX8_goBack 65 = .ok (.bipush 55, 2) := by decide +kernel
theorem dX8_goBack_67 : decode cX8_goBack 67 = .ok (.iadd, 1) := by decide +kernel
theorem dX8_goBack_68 : decode cX8_goBack 68 = .ok (.iaload, 1) := by decide +kernel
theorem dX8_goBack_69 : decode cX8_goBack 69 = .ok (.putfield 222, 3) := by decide +kernel
theorem dX8_goBack_72 : decode cX8_goBack 72 = .ok (.aload_n 0, 1) := by decide +kernel
theorem dX8_goBack_73 : decode cX8_goBack 73 = .ok (.iconst 0, 1) := by decide +kernel
theorem dX8_goBack_74 : decode cX8_goBack 74 = .ok (.putfield 159, 3) := by decide +kernel
theorem dX8_goBack_77 : decode cX8_goBack 77 = .ok (.iconst 1, 1) := by decide +kernel
theorem dX8_goBack_78 : decode cX8_goBack 78 = .ok (.ireturn, 1) := by decide +kernel
theorem dJ6_bitCount_0f7a4_0 : decode cJ6_bitCount_0f7a4 0 = .ok (.iload_n 0, 1) := by decide +kernel
theorem dJ6_bitCount_0f7a4_1 : decode cJ6_bitCount_0f7a4 1 = .ok (.iload_n 0, 1) := by decide +kernel
theorem dJ6_bitCount_0f7a4_2 : decode cJ6_bitCount_0f7a4 2 = .ok (.iconst 1, 1) := by decide +kernel
theorem dJ6_bitCount_0f7a4_3 : decode cJ6_bitCount_0f7a4 3 = .ok (.iushr, 1) := by decide +kernel
theorem dJ6_bitCount_0f7a4_4 : decode cJ6_bitCount_0f7a4 4 = .ok (.ldc_w 265, 3) := by decide +kernel
theorem dJ6_bitCount_0f7a4_7 : decode cJ6_bitCount_0f7a4 7 = .ok (.iand, 1) := by decide +kernel
theorem dJ6_bitCount_0f7a4_8 : decode cJ6_bitCount_0f7a4 8 = .ok (.isub, 1) := by decide +kernel
theorem dJ6_bitCount_0f7a4_9 : decode cJ6_bitCount_0f7a4 9 = .ok (.istore_n 0, 1) := by decide +kernel
theorem dJ6_bitCount_0f7a4_10 : decode cJ6_bitCount_0f7a4 10 = .ok (.iload_n 0, 1) := by decide +kernel
theorem dJ6_bitCount_0f7a4_11 : decode cJ6_bitCount_0f7a4 11 = .ok (.ldc_w 266, 3) := by decide +kernel
theorem dJ6_bitCount_0f7a4_14 : decode cJ6_bitCount_0f7a4 14 = .ok (.iand, 1) := by decide +kernel
theorem dJ6_bitCount_0f7a4_15 : decode cJ6_bitCount_0f7a4 15 = .ok (.iload_n 0, 1) := by decide +kernel
theorem dJ6_bitCount_0f7a4_16 : decode cJ6_bitCount_0f7a4 16 = .ok (.iconst 2, 1) := by decide +kernel
theorem dJ6_bitCount_0f7a4_17 : decode cJ6_bitCount_0f7a4 17 = .ok (.iushr, 1) := by decide +kernel
theorem dJ6_bitCount_0f7a4_18 : decode cJ6_bitCount_0f7a4 18 = .ok (.ldc_w 266, 3) := by decide +kernel
theorem dJ6_bitCount_0f7a4_21 : decode cJ6_bitCount_0f7a4 21 = .ok (.iand, 1) := by decide +kernel
theorem dJ6_bitCount_0f7a4_22 : decode cJ6_bitCount_0f7a4 22 = .ok (.iadd, 1) := by decide +kernel
theorem dJ6_bitCount_0f7a4_23 : decode cJ6_bitCount_0f7a4 23 = .ok (.istore_n 0, 1) := by decide +kernel
theorem dJ6_bitCount_0f7a4_24 : decode cJ6_bitCount_0f7a4 24 = .ok (.iload_n 0, 1) := by decide +kernel
theorem dJ6_bitCount_0f7a4_25 : decode cJ6_bitCount_0f7a4 25 = .ok (.iload_n 0, 1) := by decide +kernel
theorem dJ6_bitCount_0f7a4_26 : decode cJ6_bitCount_0f7a4 26 = .ok (.iconst 4, 1) := by decide +kernel
theorem dJ6_bitCount_0f7a4_27 : decode cJ6_bitCount_0f7a4 27 = .ok (.iushr, 1) := by decide +kernel
theorem dJ6_bitCount_0f7a4_28 : decode cJ6_bitCount_0f7a4 28 = .ok (.iadd, 1) := by decide +kernel
theorem dJ6_bitCount_0f7a4_29 : decode cJ6_bitCount_0f7a4 29 = .ok (.ldc_w 267, 3) := by decide +kernel
theorem dJ6_bitCount_0f7a4_32 : decode cJ6_bitCount_0f7a4 32 = .ok (.iand, 1) := by decide +kernel
theorem dJ6_bitCount_0f7a4_33 : decode cJ6_bitCount_0f7a4 33 = .ok (.istore_n 0, 1) := by decide +kernel
theorem dJ6_bitCount_0f7a4_34 : decode cJ6_bitCount_0f7a4 34 = .ok (.iload_n 0, 1) := by decide +kernel
theorem dJ6_bitCount_0f7a4_35 : decode cJ6_bitCount_0f7a4 35 = .ok (.iload_n 0, 1) := by decide +kernel
theorem dJ6_bitCount_0f7a4_36 : decode cJ6_bitCount_0f7a4 36 = .ok (.bipush 8, 2) := by decide +kernel
theorem dJ6_bitCount_0f7a4_38 : decode cJ6_bitCount_0f7a4 38 = .ok (.iushr, 1) := by decide +kernel
theorem dJ6_bitCount_0f7a4_39 : decode cJ6_bitCount_0f7a4 39 = .ok (.iadd, 1) := by decide +kernel
theorem dJ6_bitCount_0f7a4_40 : decode cJ6_bitCount_0f7a4 40 = .ok (.istore_n 0, 1) := by decide +kernel
theorem dJ6_bitCount_0f7a4_41 : decode cJ6_bitCount_0f7a4 41 = .ok (.iload_n 0, 1) := by decide +kernel
theorem dJ6_bitCount_0f7a4_42 : decode cJ6_bitCount_0f7a4 42 = .ok (.iload_n 0, 1) := by decide +kernel
theorem dJ6_bitCount_0f7a4_43 : decode cJ6_bitCount_0f7a4 43 = .ok (.bipush 16, 2) := by decide +kernel
theorem dJ6_bitCount_0f7a4_45 : decode cJ6_bitCount_0f7a4 45 = .ok (.iushr, 1) := by decide +kernel
theorem dJ6_bitCount_0f7a4_46 : decode cJ6_bitCount_0f7a4 46 = .ok (.iadd, 1) := by decide +kernel
theorem dJ6_bitCount_0f7a4_47 : decode cJ6_bitCount_0f7a4 47 = .ok (.istore_n 0, 1) := by decide +kernel
theorem dJ6_bitCount_0f7a4_48 : decode cJ6_bitCount_0f7a4 48 = .ok (.iload_n 0, 1) := by decide +kernel
theorem dJ6_bitCount_0f7a4_49 : decode cJ6_bitCount_0f7a4 49 = .ok (.bipush 63, 2) := by decide +kernel
theorem dJ6_bitCount_0f7a4_51 : decode cJ6_bitCount_0f7a4 51 = .ok (.iand, 1) := by decide +kernel
theorem dJ6_bitCount_0f7a4_52 : decode cJ6_bitCount_0f7a4 52 = .ok (.ireturn, 1) := by decide +kernel
theorem dJ9_max_7cf53_0 : decode cJ9_max_7cf53 0 = .ok (.iload_n 0, 1) := by decide +kernel
theorem dJ9_max_7cf53_1 : decode cJ9_max_7cf53 1 = .ok (.iload_n 1, 1) := by decide +kernel
theorem dJ9_max_7cf53_2 : decode cJ9_max_7cf53 2 = .ok (.if_icmp .lt 7, 3) := by decide +kernel
theorem dJ9_max_7cf53_5 : decode cJ9_max_7cf53 5 = .ok (.iload_n 0, 1) := by decide +kernel
theorem dJ9_max_7cf53_6 : decode cJ9_max_7cf53 6 = .ok (.goto 4, 3) := by decide +kernel
theorem dJ9_max_7cf53_9 : decode cJ9_max_7cf53 9 = .ok (.iload_n 1, 1) := by decide +kernel
theorem dJ9_max_7cf53_10 : decode cJ9_max_7cf53 10 = .ok (.ireturn, 1) := by decide +kernel
theorem dJ9_min_7cf53_0 : decode cJ9_min_7cf53 0 = .ok (.iload_n 0, 1) := by decide +kernel
theorem dJ9_min_7cf53_1 : decode cJ9_min_7cf53 1 = .ok (.iload_n 1, 1) := by decide +kernel
theorem dJ9_min_7cf53_2 : decode cJ9_min_7cf53 2 = .ok (.if_icmp .gt 7, 3) := by decide +kernel
theorem dJ9_min_7cf53_5 : decode cJ9_min_7cf53 5 = .ok (.iload_n 0, 1) := by decide +kernel
theorem dJ9_min_7cf53_6 : decode cJ9_min_7cf53 6 = .ok (.goto 4, 3) := by decide +kernel
theorem dJ9_min_7cf53_9 : decode cJ9_min_7cf53 9 = .ok (.iload_n 1, 1) := by decide +kernel
theorem dJ9_min_7cf53_10 : decode cJ9_min_7cf53 10 = .ok (.ireturn, 1) := by decide +kernel
theorem dJ7_fill_53178_0 : decode cJ7_fill_53178 0 = .ok (.iconst 0, 1) := by decide +kernel
theorem dJ7_fill_53178_1 : decode cJ7_fill_53178 1 = .ok (.istore_n 2, 1) := by decide +kernel
theorem dJ7_fill_53178_2 : decode cJ7_fill_53178 2 = .ok (.aload_n 0, 1) := by decide +kernel
theorem dJ7_fill_53178_3 : decode cJ7_fill_53178 3 = .ok (.arraylength, 1) := by decide +kernel
theorem dJ7_fill_53178_4 : decode cJ7_fill_53178 4 = .ok (.istore_n 3, 1) := by decide +kernel
theorem dJ7_fill_53178_5 : decode cJ7_fill_53178 5 = .ok (.iload_n 2, 1) := by decide +kernel
theorem dJ7_fill_53178_6 : decode cJ7_fill_53178 6 = .ok (.iload_n 3, 1) := by decide +kernel
theorem dJ7_fill_53178_7 : decode cJ7_fill_53178 7 = .ok (.if_icmp .ge 13, 3) := by decide +kernel
theorem dJ7_fill_53178_10 : decode cJ7_fill_53178 10 = .ok (.aload_n 0, 1) := by decide +kernel
theorem dJ7_fill_53178_11 : decode cJ7_fill_53178 11 = .ok (.iload_n 2, 1) := by decide +kernel
theorem dJ7_fill_53178_12 : decode cJ7_fill_53178 12 = .ok (.iload_n 1, 1) := by decide +kernel
theorem dJ7_fill_53178_13 : decode cJ7_fill_53178 13 = .ok (.iastore, 1) := by decide +kernel
theorem dJ7_fill_53178_14 : decode cJ7_fill_53178 14 = .ok (.iinc 2 1, 3) := by decide +kernel
theorem dJ7_fill_53178_17 : decode cJ7_fill_53178 17 = .ok (.goto (-12), 3) := by decide +kernel
theorem dJ7_fill_53178_20 : decode cJ7_fill_53178 20 = .ok (.return_, 1) := by decide +kernel
theorem dL_law_0 : decode cL_law 0 = .ok (.new 7, 3) := by decide +kernel
theorem dL_law_3 : decode cL_law 3 = .ok (.dup, 1) := by decide +kernel
theorem dL_law_4 : decode cL_law 4 = .ok (.invokespecial 9, 3) := by decide +kernel
theorem dL_law_7 : decode cL_law 7 = .ok (.astore_n 1, 1) := by decide +kernel
theorem dL_law_8 : decode cL_law 8 = .ok (.new 10, 3) := by decide +kernel
theorem dL_law_11 : decode cL_law 11 = .ok (.dup, 1) := by decide +kernel
theorem dL_law_12 : decode cL_law 12 = .ok (.invokespecial 12, 3) := by decide +kernel
theorem dL_law_15 : decode cL_law 15 = .ok (.astore_n 2, 1) := by decide +kernel
theorem dL_law_16 : decode cL_law 16 = .ok (.iconst 0, 1) := by decide +kernel
theorem dL_law_17 : decode cL_law 17 = .ok (.istore_n 3, 1) := by decide +kernel
theorem dL_law_18 : decode cL_law 18 = .ok (.iload_n 3, 1) := by decide +kernel
theorem dL_law_19 : decode cL_law 19 = .ok (.aload_n 0, 1) := by decide +kernel
theorem dL_law_20 : decode cL_law 20 = .ok (.arraylength, 1) := by decide +kernel
theorem dL_law_21 : decode cL_law 21 = .ok (.iconst 3, 1) := by decide +kernel
theorem dL_law_22 : decode cL_law 22 = .ok (.isub, 1) := by decide +kernel
theorem dL_law_23 : decode cL_law 23 = .ok (.if_icmp .gt 955, 3) := by decide +kernel
theorem dL_law_26 : decode cL_law 26 = .ok (.aload_n 0, 1) := by decide +kernel
theorem dL_law_27 : decode cL_law 27 = .ok (.iload_n 3, 1) := by decide +kernel
theorem dL_law_28 : decode cL_law 28 = .ok (.iaload, 1) := by decide +kernel
theorem dL_law_29 : decode cL_law 29 = .ok (.bipush 63, 2) := by decide +kernel
theorem dL_law_31 : decode cL_law 31 = .ok (.iand, 1) := by decide +kernel
theorem dL_law_32 : decode cL_law 32 = .ok (.tableswitch 940 0 33 #[152, 175, 188, 201, 224, 257, 290, 323, 346, 369, 402, 425, 448, 471, 494, 517, 530, 553, 586, 599, 622, 635, 658, 681, 704, 737, 786, 799, 812, 845, 858, 871, 894, 917], 152) := by decide +kernel
theorem dL_law_184 : decode cL_law 184 = .ok (.aload_n 1, 1) := by decide +kernel
theorem dL_law_185 : decode cL_law 185 = .ok (.aload_n 0, 1) := by decide +kernel
theorem dL_law_186 : decode cL_law 186 = .ok (.iload_n 3, 1) := by decide +kernel
theorem dL_law_187 : decode cL_law 187 = .ok (.iconst 1, 1) := by decide +kernel
theorem dL_law_188 : decode cL_law 188 = .ok (.iadd, 1) := by decide +kernel
theorem dL_law_189 : decode cL_law 189 = .ok (.iaload, 1) := by decide +kernel
theorem dL_law_190 : decode cL_law 190 = .ok (.invokevirtual 13, 3) := by decide +kernel
theorem dL_law_193 : decode cL_law 193 = .ok (.aload_n 2, 1) := by decide +kernel
theorem dL_law_194 : decode cL_law 194 = .ok (.aload_n 0, 1) := by decide +kernel
theorem dL_law_195 : decode cL_law 195 = .ok (.iload_n 3, 1) := by decide +kernel
theorem dL_law_196 : decode cL_law 196 = .ok (.iconst 1, 1) := by decide +kernel
theorem dL_law_197 : decode cL_law 197 = .ok (.iadd, 1) := by decide +kernel
theorem dL_law_198 : decode cL_law 198 = .ok (.iaload, 1) := by decide +kernel
theorem dL_law_199 : decode cL_law 199 = .ok (.invokevirtual 17, 3) := by decide +kernel
theorem dL_law_202 : decode cL_law 202 = .ok (.if_icmp .eq 770, 3) := by decide +kernel
theorem dL_law_205 : decode cL_law 205 = .ok (.iconst 0, 1) := by decide +kernel
theorem dL_law_206 : decode cL_law 206 = .ok (.ireturn, 1) := by decide +kernel
theorem dL_law_207 : decode cL_law 207 = .ok (.aload_n 1, 1) := by decide +kernel
theorem dL_law_208 : decode cL_law 208 = .ok (.invokevirtual 18, 3) := by decide +kernel
theorem dL_law_211 : decode cL_law 211 = .ok (.aload_n 2, 1) := by decide +kernel
theorem dL_law_212 : decode cL_law 212 = .ok (.invokevirtual 22, 3) := by decide +kernel
theorem dL_law_215 : decode cL_law 215 = .ok (.if_icmp .eq 757, 3) := by decide +kernel
theorem dL_law_218 : decode cL_law 218 = .ok (.iconst 0, 1) := by decide +kernel
theorem dL_law_219 : decode cL_law 219 = .ok (.ireturn, 1) := by decide +kernel
theorem dL_law_220 : decode cL_law 220 = .ok (.aload_n 1, 1) := by decide +kernel
theorem dL_law_221 : decode cL_law 221 = .ok (.invokevirtual 23, 3) := by decide +kernel
theorem dL_law_224 : decode cL_law 224 = .ok (.aload_n 2, 1) := by decide +kernel
theorem dL_law_225 : decode cL_law 225 = .ok (.invokevirtual 26, 3) := by decide +kernel
theorem dL_law_228 : decode cL_law 228 = .ok (.if_icmp .eq 744, 3) := by decide +kernel
theorem dL_law_231 : decode cL_law 231 = .ok (.iconst 0, 1) := by decide +kernel
theorem dL_law_232 : decode cL_law 232 = .ok (.ireturn, 1) := by decide +kernel
theorem dL_law_233 : decode cL_law 233 = .ok (.aload_n 1, 1) := by decide +kernel
theorem dL_law_234 : decode cL_law 234 = .ok (.aload_n 0, 1) := by decide +kernel
theorem dL_law_235 : decode cL_law 235 = .ok (.iload_n 3, 1) := by decide +kernel
theorem dL_law_236 : decode cL_law 236 = .ok (.iconst 1, 1) := by decide +kernel
theorem dL_law_237 : decode cL_law 237 = .ok (.iadd, 1) := by decide +kernel
theorem dL_law_238 : decode cL_law 238 = .ok (.iaload, 1) := by decide +kernel
theorem dL_law_239 : decode cL_law 239 = .ok (.invokevirtual 27, 3) := by decide +kernel
theorem dL_law_242 : decode cL_law 242 = .ok (.aload_n 2, 1) := by decide +kernel
theorem dL_law_243 : decode cL_law 243 = .ok (.aload_n 0, 1) := by decide +kernel
theorem dL_law_244 : decode cL_law 244 = .ok (.iload_n 3, 1) := by decide +kernel
theorem dL_law_245 : decode cL_law 245 = .ok (.iconst 1, 1) := by decide +kernel
theorem dL_law_246 : decode cL_law 246 = .ok (.iadd, 1) := by decide +kernel
theorem dL_law_247 : decode cL_law 247 = .ok (.iaload, 1) := by decide +kernel
theorem dL_law_248 : decode cL_law 248 = .ok (.invokevirtual 30, 3) := by decide +kernel
theorem dL_law_251 : decode cL_law 251 = .ok (.if_icmp .eq 721, 3) := by decide +kernel
theorem dL_law_254 : decode cL_law 254 = .ok (.iconst 0, 1) := by decide +kernel
theorem dL_law_255 : decode cL_law 255 = .ok (.ireturn, 1) := by decide +kernel
theorem dL_law_256 : decode cL_law 256 = .ok (.aload_n 1, 1) := by decide +kernel
theorem dL_law_257 : decode cL_law 257 = .ok (.aload_n 0, 1) := by decide +kernel
theorem dL_law_258 : decode cL_law 258 = .ok (.iload_n 3, 1) := by decide +kernel
theorem dL_law_259 : decode cL_law 259 = .ok (.iconst 1, 1) := by decide +kernel
theorem dL_law_260 : decode cL_law 260 = .ok (.iadd, 1) := by decide +kernel
theorem dL_law_261 : decode cL_law 261 = .ok (.iaload, 1) := by decide +kernel
theorem dL_law_262 : decode cL_law 262 = .ok (.aload_n 0, 1) := by decide +kernel
theorem dL_law_263 : decode cL_law 263 = .ok (.iload_n 3, 1) := by decide +kernel
theorem dL_law_264 : decode cL_law 264 = .ok (.iconst 2, 1) := by decide +kernel
theorem dL_law_265 : decode cL_law 265 = .ok (.iadd, 1) := by decide +kernel
theorem dL_law_266 : decode cL_law 266 = .ok (.iaload, 1) := by decide +kernel
theorem dL_law_267 : decode cL_law 267 = .ok (.invokevirtual 31, 3) := by decide +kernel
theorem dL_law_270 : decode cL_law 270 = .ok (.aload_n 2, 1) := by decide +kernel
theorem dL_law_271 : decode cL_law 271 = .ok (.aload_n 0, 1) := by decide +kernel
theorem dL_law_272 : decode cL_law 272 = .ok (.iload_n 3, 1) := by decide +kernel
theorem dL_law_273 : decode cL_law 273 = .ok (.iconst 1, 1) := by decide +kernel
theorem dL_law_274 : decode cL_law 274 = .ok (.iadd, 1) := by decide +kernel
theorem dL_law_275 : decode cL_law 275 = .ok (.iaload, 1) := by decide +kernel
theorem dL_law_276 : decode cL_law 276 = .ok (.aload_n 0, 1) := by decide +kernel
theorem dL_law_277 : decode cL_law 277 = .ok (.iload_n 3, 1) := by decide +kernel
theorem dL_law_278 : decode cL_law 278 = .ok (.iconst 2, 1) := by decide +kernel
theorem dL_law_279 : decode cL_law 279 = .ok (.iadd, 1) := by decide +kernel
theorem dL_law_280 : decode cL_law 280 = .ok (.iaload, 1) := by decide +kernel
theorem dL_law_281 : decode cL_law 281 = .ok (.invokevirtual 35, 3) := by decide +kernel
theorem dL_law_284 : decode cL_law 284 = .ok (.if_icmp .eq 688, 3) := by decide +kernel
theorem dL_law_287 : decode cL_law 287 = .ok (.iconst 0, 1) := by decide +kernel
theorem dL_law_288 : decode cL_law 288 = .ok (.ireturn, 1) := by decide +kernel
theorem dL_law_289 : decode cL_law 289 = .ok (.aload_n 1, 1) := by decide +kernel
theorem dL_law_290 : decode cL_law 290 = .ok (.aload_n 0, 1) := by decide +kernel
theorem dL_law_291 : decode cL_law 291 = .ok (.iload_n 3, 1) := by decide +kernel
theorem dL_law_292 : decode cL_law 292 = .ok (.iconst 1, 1) := by decide +kernel
theorem dL_law_293 : decode cL_law 293 = .ok (.iadd, 1) := by decide +kernel
theorem dL_law_294 : decode cL_law 294 = .ok (.iaload, 1) := by decide +kernel
theorem dL_law_295 : decode cL_law 295 = .ok (.aload_n 0, 1) := by decide +kernel
theorem dL_law_296 : decode cL_law 296 = .ok (.iload_n 3, 1) := by decide +kernel
theorem dL_law_297 : decode cL_law 297 = .ok (.iconst 2, 1) := by decide +kernel
theorem dL_law_298 : decode cL_law 298 = .ok (.iadd, 1) := by decide +kernel
theorem dL_law_299 : decode cL_law 299 = .ok (.iaload, 1) := by decide +kernel
theorem dL_law_300 : decode cL_law 300 = .ok (.invokevirtual 36, 3) := by decide +kernel
theorem dL_law_303 : decode cL_law 303 = .ok (.aload_n 2, 1) := by decide +kernel
theorem dL_law_304 : decode cL_law 304 = .ok (.aload_n 0, 1) := by decide +kernel
theorem dL_law_305 : decode cL_law 305 = .ok (.iload_n 3, 1) := by decide +kernel
theorem dL_law_306 : decode cL_law 306 = .ok (.iconst 1, 1) := by decide +kernel
theorem dL_law_307 : decode cL_law 307 = .ok (.iadd, 1) := by decide +kernel
theorem dL_law_308 : decode cL_law 308 = .ok (.iaload, 1) := by decide +kernel
theorem dL_law_309 : decode cL_law 309 = .ok (.aload_n 0, 1) := by decide +kernel
theorem dL_law_310 : decode cL_law 310 = .ok (.iload_n 3, 1) := by decide +kernel
theorem dL_law_311 : decode cL_law 311 = .ok (.iconst 2, 1) := by decide +kernel
theorem dL_law_312 : decode cL_law 312 = .ok (.iadd, 1) := by decide +kernel
theorem dL_law_313 : decode cL_law 313 = .ok (.iaload, 1) := by decide +kernel
theorem dL_law_314 : decode cL_law 314 = .ok (.invokevirtual 39, 3) := by decide +kernel
theorem dL_law_317 : decode cL_law 317 = .ok (.if_icmp .eq 655, 3) := by decide +kernel
theorem dL_law_320 : decode cL_law 320 = .ok (.iconst 0, 1) := by decide +kernel
theorem dL_law_321 : decode cL_law 321 = .ok (.ireturn, 1) := by decide +kernel
theorem dL_law_322 : decode cL_law 322 = .ok (.aload_n 1, 1) := by decide +kernel
theorem dL_law_323 : decode cL_law 323 = .ok (.aload_n 0, 1) := by decide +kernel
theorem dL_law_324 : decode cL_law 324 = .ok (.iload_n 3, 1) := by decide +kernel
theorem dL_law_325 : decode cL_law 325 = .ok (.iconst 1, 1) := by decide +kernel
theorem dL_law_326 : decode cL_law 326 = .ok (.iadd, 1) := by decide +kernel
theorem dL_law_327 : decode cL_law 327 = .ok (.iaload, 1) := by decide +kernel
theorem dL_law_328 : decode cL_law 328 = .ok (.aload_n 0, 1) := by decide +kernel
theorem dL_law_329 : decode cL_law 329 = .ok (.iload_n 3, 1) := by decide +kernel
theorem dL_law_330 : decode cL_law 330 = .ok (.iconst 2, 1) := by decide +kernel
theorem dL_law_331 : decode cL_law 331 = .ok (.iadd, 1) := by decide +kernel
theorem dL_law_332 : decode cL_law 332 = .ok (.iaload, 1) := by decide +kernel
theorem dL_law_333 : decode cL_law 333 = .ok (.invokevirtual 40, 3) := by decide +kernel
theorem dL_law_336 : decode cL_law 336 = .ok (.aload_n 2, 1) := by decide +kernel
theorem dL_law_337 : decode cL_law 337 = .ok (.aload_n 0, 1) := by decide +kernel
theorem dL_law_338 : decode cL_law 338 = .ok (.iload_n 3, 1) := by decide +kernel
theorem dL_law_339 : decode cL_law 339 = .ok (.iconst 1, 1) := by decide +kernel
theorem dL_law_340 : decode cL_law 340 = .ok (.iadd, 1) := by decide +kernel
theorem dL_law_341 : decode cL_law 341 = .ok (.iaload, 1) := by decide +kernel
theorem dL_law_342 : decode cL_law 342 = .ok (.aload_n 0, 1) := by decide +kernel
theorem dL_law_343 : decode cL_law 343 = .ok (.iload_n 3, 1) := by decide +kernel
theorem dL_law_344 : decode cL_law 344 = .ok (.iconst 2, 1) := by decide +kernel
theorem dL_law_345 : decode cL_law 345 = .ok (.iadd, 1) := by decide +kernel
theorem dL_law_346 : decode cL_law 346 = .ok (.iaload, 1) := by decide +kernel
theorem dL_law_347 : decode cL_law 347 = .ok (.invokevirtual 43, 3) := by decide +kernel
theorem dL_law_350 : decode cL_law 350 = .ok (.if_icmp .eq 622, 3) := by decide +kernel
theorem dL_law_353 : decode cL_law 353 = .ok (.iconst 0, 1) := by decide +kernel
theorem dL_law_354 : decode cL_law 354 = .ok (.ireturn, 1) := by decide +kernel
theorem dL_law_355 : decode cL_law 355 = .ok (.aload_n 1, 1) := by decide +kernel
theorem dL_law_356 : decode cL_law 356 = .ok (.aload_n 0, 1) := by decide +kernel
theorem dL_law_357 : decode cL_law 357 = .ok (.iload_n 3, 1) := by decide +kernel
theorem dL_law_358 : decode cL_law 358 = .ok (.iconst 1, 1) := by decide +kernel
theorem dL_law_359 : decode cL_law 359 = .ok (.iadd, 1) := by decide +kernel
theorem dL_law_360 : decode cL_law 360 = .ok (.iaload, 1) := by decide +kernel
theorem dL_law_361 : decode cL_law 361 = .ok (.invokevirtual 44, 3) := by decide +kernel
theorem dL_law_364 : decode cL_law 364 = .ok (.aload_n 2, 1) := by decide +kernel
theorem dL_law_365 : decode cL_law 365 = .ok (.aload_n 0, 1) := by decide +kernel
theorem dL_law_366 : decode cL_law 366 = .ok (.iload_n 3, 1) := by decide +kernel
theorem dL_law_367 : decode cL_law 367 = .ok (.iconst 1, 1) := by decide +kernel
theorem dL_law_368 : decode cL_law 368 = .ok (.iadd, 1) := by decide +kernel
theorem dL_law_369 : decode cL_law 369 = .ok (.iaload, 1) := by decide +kernel
theorem dL_law_370 : decode cL_law 370 = .ok (.invokevirtual 47, 3) := by decide +kernel
theorem dL_law_373 : decode cL_law 373 = .ok (.if_icmp .eq 599, 3) := by decide +kernel
theorem dL_law_376 : decode cL_law 376 = .ok (.iconst 0, 1) := by decide +kernel
theorem dL_law_377 : decode cL_law 377 = .ok (.ireturn, 1) := by decide +kernel
theorem dL_law_378 : decode cL_law 378 = .ok (.aload_n 1, 1) := by decide +kernel
theorem dL_law_379 : decode cL_law 379 = .ok (.aload_n 0, 1) := by decide +kernel
theorem dL_law_380 : decode cL_law 380 = .ok (.iload_n 3, 1) := by decide +kernel
theorem dL_law_381 : decode cL_law 381 = .ok (.iconst 1, 1) := by decide +kernel
theorem dL_law_382 : decode cL_law 382 = .ok (.iadd, 1) := by decide +kernel
theorem dL_law_383 : decode cL_law 383 = .ok (.iaload, 1) := by decide +kernel
theorem dL_law_384 : decode cL_law 384 = .ok (.invokevirtual 48, 3) := by decide +kernel
theorem dL_law_387 : decode cL_law 387 = .ok (.aload_n 2, 1) := by decide +kernel
theorem dL_law_388 : decode cL_law 388 = .ok (.aload_n 0, 1) := by decide +kernel
theorem dL_law_389 : decode cL_law 389 = .ok (.iload_n 3, 1) := by decide +kernel
theorem dL_law_390 : decode cL_law 390 = .ok (.iconst 1, 1) := by decide +kernel
theorem dL_law_391 : decode cL_law 391 = .ok (.iadd, 1) := by decide +kernel
theorem dL_law_392 : decode cL_law 392 = .ok (.iaload, 1) := by decide +kernel
theorem dL_law_393 : decode cL_law 393 = .ok (.invokevirtual 51, 3) := by decide +kernel
theorem dL_law_396 : decode cL_law 396 = .ok (.if_icmp .eq 576, 3) := by decide +kernel
theorem dL_law_399 : decode cL_law 399 = .ok (.iconst 0, 1) := by decide +kernel
theorem dL_law_400 : decode cL_law 400 = .ok (.ireturn, 1) := by decide +kernel
theorem dL_law_401 : decode cL_law 401 = .ok (.aload_n 1, 1) := by decide +kernel
theorem dL_law_402 : decode cL_law 402 = .ok (.aload_n 0, 1) := by decide +kernel
theorem dL_law_403 : decode cL_law 403 = .ok (.iload_n 3, 1) := by decide +kernel
theorem dL_law_404 : decode cL_law 404 = .ok (.iconst 1, 1) := by decide +kernel
theorem dL_law_405 : decode cL_law 405 = .ok (.iadd, 1) := by decide +kernel
theorem dL_law_406 : decode cL_law 406 = .ok (.iaload, 1) := by decide +kernel
theorem dL_law_407 : decode cL_law 407 = .ok (.aload_n 0, 1) := by decide +kernel
theorem dL_law_408 : decode cL_law 408 = .ok (.iload_n 3, 1) := by decide +kernel
theorem dL_law_409 : decode cL_law 409 = .ok (.iconst 2, 1) := by decide +kernel
theorem dL_law_410 : decode cL_law 410 = .ok (.iadd, 1) := by decide +kernel
theorem dL_law_411 : decode cL_law 411 = .ok (.iaload, 1) := by decide +kernel
theorem dL_law_412 : decode cL_law 412 = .ok (.invokevirtual 52, 3) := by decide +kernel
theorem dL_law_415 : decode cL_law 415 = .ok (.aload_n 2, 1) := by decide +kernel
theorem dL_law_416 : decode cL_law 416 = .ok (.aload_n 0, 1) := by decide +kernel
theorem dL_law_417 : decode cL_law 417 = .ok (.iload_n 3, 1) := by decide +kernel
theorem dL_law_418 : decode cL_law 418 = .ok (.iconst 1, 1) := by decide +kernel
theorem dL_law_419 : decode cL_law 419 = .ok (.iadd, 1) := by decide +kernel
theorem dL_law_420 : decode cL_law 420 = .ok (.iaload, 1) := by decide +kernel
theorem dL_law_421 : decode cL_law 421 = .ok (.aload_n 0, 1) := by decide +kernel
theorem dL_law_422 : decode cL_law 422 = .ok (.iload_n 3, 1) := by decide +kernel
theorem dL_law_423 : decode cL_law 423 = .ok (.iconst 2, 1) := by decide +kernel
theorem dL_law_424 : decode cL_law 424 = .ok (.iadd, 1) := by decide +kernel
theorem dL_law_425 : decode cL_law 425 = .ok (.iaload, 1) := by decide +kernel
theorem dL_law_426 : decode cL_law 426 = .ok (.invokevirtual 55, 3) := by decide +kernel
theorem dL_law_429 : decode cL_law 429 = .ok (.if_icmp .eq 543, 3) := by decide +kernel
theorem dL_law_432 : decode cL_law 432 = .ok (.iconst 0, 1) := by decide +kernel
theorem dL_law_433 : decode cL_law 433 = .ok (.ireturn, 1) := by decide +kernel
theorem dL_law_434 : decode cL_law 434 = .ok (.aload_n 1, 1) := by decide +kernel
theorem dL_law_435 : decode cL_law 435 = .ok (.aload_n 0, 1) := by decide +kernel
theorem dL_law_436 : decode cL_law 436 = .ok (.iload_n 3, 1) := by decide +kernel
theorem dL_law_437 : decode cL_law 437 = .ok (.iconst 1, 1) := by decide +kernel
theorem dL_law_438 : decode cL_law 438 = .ok (.iadd, 1) := by decide +kernel
theorem dL_law_439 : decode cL_law 439 = .ok (.iaload, 1) := by decide +kernel
theorem dL_law_440 : decode cL_law 440 = .ok (.invokevirtual 56, 3) := by decide +kernel
theorem dL_law_443 : decode cL_law 443 = .ok (.aload_n 2, 1) := by decide +kernel
theorem dL_law_444 : decode cL_law 444 = .ok (.aload_n 0, 1) := by decide +kernel
theorem dL_law_445 : decode cL_law 445 = .ok (.iload_n 3, 1) := by decide +kernel
theorem dL_law_446 : decode cL_law 446 = .ok (.iconst 1, 1) := by decide +kernel
theorem dL_law_447 : decode cL_law 447 = .ok (.iadd, 1) := by decide +kernel
theorem dL_law_448 : decode cL_law 448 = .ok (.iaload, 1) := by decide +kernel
theorem dL_law_449 : decode cL_law 449 = .ok (.invokevirtual 59, 3) := by decide +kernel
theorem dL_law_452 : decode cL_law 452 = .ok (.if_icmp .eq 520, 3) := by decide +kernel
theorem dL_law_455 : decode cL_law 455 = .ok (.iconst 0, 1) := by decide +kernel
theorem dL_law_456 : decode cL_law 456 = .ok (.ireturn, 1) := by decide +kernel
theorem dL_law_457 : decode cL_law 457 = .ok (.aload_n 1, 1) := by decide +kernel
theorem dL_law_458 : decode cL_law 458 = .ok (.aload_n 0, 1) := by decide +kernel
theorem dL_law_459 : decode cL_law 459 = .ok (.iload_n 3, 1) := by decide +kernel
theorem dL_law_460 : decode cL_law 460 = .ok (.iconst 1, 1) := by decide +kernel
theorem dL_law_461 : decode cL_law 461 = .ok (.iadd, 1) := by decide +kernel
theorem dL_law_462 : decode cL_law 462 = .ok (.iaload, 1) := by decide +kernel
theorem dL_law_463 : decode cL_law 463 = .ok (.invokevirtual 60, 3) := by decide +kernel
theorem dL_law_466 : decode cL_law 466 = .ok (.aload_n 2, 1) := by decide +kernel
theorem dL_law_467 : decode cL_law 467 = .ok (.aload_n 0, 1) := by decide +kernel
theorem dL_law_468 : decode cL_law 468 = .ok (.iload_n 3, 1) := by decide +kernel
theorem dL_law_469 : decode cL_law 469 = .ok (.iconst 1, 1) := by decide +kernel
theorem dL_law_470 : decode cL_law 470 = .ok (.iadd, 1) := by decide +kernel
theorem dL_law_471 : decode cL_law 471 = .ok (.iaload, 1) := by decide +kernel
theorem dL_law_472 : decode cL_law 472 = .ok (.invokevirtual 63, 3) := by decide +kernel
theorem dL_law_475 : decode cL_law 475 = .ok (.if_icmp .eq 497, 3) := by decide +kernel
theorem dL_law_478 : decode cL_law 478 = .ok (.iconst 0, 1) := by decide +kernel
theorem dL_law_479 : decode cL_law 479 = .ok (.ireturn, 1) := by decide +kernel
theorem dL_law_480 : decode cL_law 480 = .ok (.aload_n 1, 1) := by decide +kernel
theorem dL_law_481 : decode cL_law 481 = .ok (.aload_n 0, 1) := by decide +kernel
theorem dL_law_482 : decode cL_law 482 = .ok (.iload_n 3, 1) := by decide +kernel
theorem dL_law_483 : decode cL_law 483 = .ok (.iconst 1, 1) := by decide +kernel
theorem dL_law_484 : decode cL_law 484 = .ok (.iadd, 1) := by decide +kernel
theorem dL_law_485 : decode cL_law 485 = .ok (.iaload, 1) := by decide +kernel
theorem dL_law_486 : decode cL_law 486 = .ok (.invokevirtual 64, 3) := by decide +kernel
theorem dL_law_489 : decode cL_law 489 = .ok (.aload_n 2, 1) := by decide +kernel
theorem dL_law_490 : decode cL_law 490 = .ok (.aload_n 0, 1) := by decide +kernel
theorem dL_law_491 : decode cL_law 491 = .ok (.iload_n 3, 1) := by decide +kernel
theorem dL_law_492 : decode cL_law 492 = .ok (.iconst 1, 1) := by decide +kernel
theorem dL_law_493 : decode cL_law 493 = .ok (.iadd, 1) := by decide +kernel
theorem dL_law_494 : decode cL_law 494 = .ok (.iaload, 1) := by decide +kernel
theorem dL_law_495 : decode cL_law 495 = .ok (.invokevirtual 67, 3) := by decide +kernel
theorem dL_law_498 : decode cL_law 498 = .ok (.if_icmp .eq 474, 3) := by decide +kernel
theorem dL_law_501 : decode cL_law 501 = .ok (.iconst 0, 1) := by decide +kernel
theorem dL_law_502 : decode cL_law 502 = .ok (.ireturn, 1) := by decide +kernel
theorem dL_law_503 : decode cL_law 503 = .ok (.aload_n 1, 1) := by decide +kernel
theorem dL_law_504 : decode cL_law 504 = .ok (.aload_n 0, 1) := by decide +kernel
theorem dL_law_505 : decode cL_law 505 = .ok (.iload_n 3, 1) := by decide +kernel
theorem dL_law_506 : decode cL_law 506 = .ok (.iconst 1, 1) := by decide +kernel
theorem dL_law_507 : decode cL_law 507 = .ok (.iadd, 1) := by decide +kernel
theorem dL_law_508 : decode cL_law 508 = .ok (.iaload, 1) := by decide +kernel
theorem dL_law_509 : decode cL_law 509 = .ok (.invokevirtual 68, 3) := by decide +kernel
theorem dL_law_512 : decode cL_law 512 = .ok (.aload_n 2, 1) := by decide +kernel
theorem dL_law_513 : decode cL_law 513 = .ok (.aload_n 0, 1) := by decide +kernel
theorem dL_law_514 : decode cL_law 514 = .ok (.iload_n 3, 1) := by decide +kernel
theorem dL_law_515 : decode cL_law 515 = .ok (.iconst 1, 1) := by decide +kernel
theorem dL_law_516 : decode cL_law 516 = .ok (.iadd, 1) := by decide +kernel
theorem dL_law_517 : decode cL_law 517 = .ok (.iaload, 1) := by decide +kernel
theorem dL_law_518 : decode cL_law 518 = .ok (.invokevirtual 71, 3) := by decide +kernel
theorem dL_law_521 : decode cL_law 521 = .ok (.if_icmp .eq 451, 3) := by decide +kernel
theorem dL_law_524 : decode cL_law 524 = .ok (.iconst 0, 1) := by decide +kernel
theorem dL_law_525 : decode cL_law 525 = .ok (.ireturn, 1) := by decide +kernel
theorem dL_law_526 : decode cL_law 526 = .ok (.aload_n 1, 1) := by decide +kernel
theorem dL_law_527 : decode cL_law 527 = .ok (.aload_n 0, 1) := by decide +kernel
theorem dL_law_528 : decode cL_law 528 = .ok (.iload_n 3, 1) := by decide +kernel
theorem dL_law_529 : decode cL_law 529 = .ok (.iconst 1, 1) := by decide +kernel
theorem dL_law_530 : decode cL_law 530 = .ok (.iadd, 1) := by decide +kernel
theorem dL_law_531 : decode cL_law 531 = .ok (.iaload, 1) := by decide +kernel
theorem dL_law_532 : decode cL_law 532 = .ok (.invokevirtual 72, 3) := by decide +kernel
theorem dL_law_535 : decode cL_law 535 = .ok (.aload_n 2, 1) := by decide +kernel
theorem dL_law_536 : decode cL_law 536 = .ok (.aload_n 0, 1) := by decide +kernel
theorem dL_law_537 : decode cL_law 537 = .ok (.iload_n 3, 1) := by decide +kernel
theorem dL_law_538 : decode cL_law 538 = .ok (.iconst 1, 1) := by decide +kernel
theorem dL_law_539 : decode cL_law 539 = .ok (.iadd, 1) := by decide +kernel
theorem dL_law_540 : decode cL_law 540 = .ok (.iaload, 1) := by decide +kernel
theorem dL_law_541 : decode cL_law 541 = .ok (.invokevirtual 75, 3) := by decide +kernel
theorem dL_law_544 : decode cL_law 544 = .ok (.if_icmp .eq 428, 3) := by decide +kernel
theorem dL_law_547 : decode cL_law 547 = .ok (.iconst 0, 1) := by decide +kernel
theorem dL_law_548 : decode cL_law 548 = .ok (.ireturn, 1) := by decide +kernel
theorem dL_law_549 : decode cL_law 549 = .ok (.aload_n 1, 1) := by decide +kernel
theorem dL_law_550 : decode cL_law 550 = .ok (.invokevirtual 76, 3) := by decide +kernel
theorem dL_law_553 : decode cL_law 553 = .ok (.aload_n 2, 1) := by decide +kernel
theorem dL_law_554 : decode cL_law 554 = .ok (.invokevirtual 79, 3) := by decide +kernel
theorem dL_law_557 : decode cL_law 557 = .ok (.if_icmp .eq 415, 3) := by decide +kernel
theorem dL_law_560 : decode cL_law 560 = .ok (.iconst 0, 1) := by decide +kernel
theorem dL_law_561 : decode cL_law 561 = .ok (.ireturn, 1) := by decide +kernel
theorem dL_law_562 : decode cL_law 562 = .ok (.aload_n 1, 1) := by decide +kernel
theorem dL_law_563 : decode cL_law 563 = .ok (.aload_n 0, 1) := by decide +kernel
theorem dL_law_564 : decode cL_law 564 = .ok (.iload_n 3, 1) := by decide +kernel
theorem dL_law_565 : decode cL_law 565 = .ok (.iconst 1, 1) := by decide +kernel
theorem dL_law_566 : decode cL_law 566 = .ok (.iadd, 1) := by decide +kernel
theorem dL_law_567 : decode cL_law 567 = .ok (.iaload, 1) := by decide +kernel
theorem dL_law_568 : decode cL_law 568 = .ok (.invokevirtual 80, 3) := by decide +kernel
theorem dL_law_571 : decode cL_law 571 = .ok (.aload_n 2, 1) := by decide +kernel
theorem dL_law_572 : decode cL_law 572 = .ok (.aload_n 0, 1) := by decide +kernel
theorem dL_law_573 : decode cL_law 573 = .ok (.iload_n 3, 1) := by decide +kernel
theorem dL_law_574 : decode cL_law 574 = .ok (.iconst 1, 1) := by decide +kernel
theorem dL_law_575 : decode cL_law 575 = .ok (.iadd, 1) := by decide +kernel
theorem dL_law_576 : decode cL_law 576 = .ok (.iaload, 1) := by decide +kernel
theorem dL_law_577 : decode cL_law 577 = .ok (.invokevirtual 83, 3) := by decide +kernel
theorem dL_law_580 : decode cL_law 580 = .ok (.if_icmp .eq 392, 3) := by decide +kernel
theorem dL_law_583 : decode cL_law 583 = .ok (.iconst 0, 1) := by decide +kernel
theorem dL_law_584 : decode cL_law 584 = .ok (.ireturn, 1) := by decide +kernel
theorem dL_law_585 : decode cL_law 585 = .ok (.aload_n 1, 1) := by decide +kernel
theorem dL_law_586 : decode cL_law 586 = .ok (.aload_n 0, 1) := by decide +kernel
theorem dL_law_587 : decode cL_law 587 = .ok (.iload_n 3, 1) := by decide +kernel
theorem dL_law_588 : decode cL_law 588 = .ok (.iconst 1, 1) := by decide +kernel
theorem dL_law_589 : decode cL_law 589 = .ok (.iadd, 1) := by decide +kernel
theorem dL_law_590 : decode cL_law 590 = .ok (.iaload, 1) := by decide +kernel
theorem dL_law_591 : decode cL_law 591 = .ok (.aload_n 0, 1) := by decide +kernel
theorem dL_law_592 : decode cL_law 592 = .ok (.iload_n 3, 1) := by decide +kernel
theorem dL_law_593 : decode cL_law 593 = .ok (.iconst 2, 1) := by decide +kernel
theorem dL_law_594 : decode cL_law 594 = .ok (.iadd, 1) := by decide +kernel
theorem dL_law_595 : decode cL_law 595 = .ok (.iaload, 1) := by decide +kernel
theorem dL_law_596 : decode cL_law 596 = .ok (.invokevirtual 84, 3) := by decide +kernel
theorem dL_law_599 : decode cL_law 599 = .ok (.aload_n 2, 1) := by decide +kernel
theorem dL_law_600 : decode cL_law 600 = .ok (.aload_n 0, 1) := by decide +kernel
theorem dL_law_601 : decode cL_law 601 = .ok (.iload_n 3, 1) := by decide +kernel
theorem dL_law_602 : decode cL_law 602 = .ok (.iconst 1, 1) := by decide +kernel
theorem dL_law_603 : decode cL_law 603 = .ok (.iadd, 1) := by decide +kernel
theorem dL_law_604 : decode cL_law 604 = .ok (.iaload, 1) := by decide +kernel
theorem dL_law_605 : decode cL_law 605 = .ok (.aload_n 0, 1) := by decide +kernel
theorem dL_law_606 : decode cL_law 606 = .ok (.iload_n 3, 1) := by decide +kernel
theorem dL_law_607 : decode cL_law 607 = .ok (.iconst 2, 1) := by decide +kernel
theorem dL_law_608 : decode cL_law 608 = .ok (.iadd, 1) := by decide +kernel
theorem dL_law_609 : decode cL_law 609 = .ok (.iaload, 1) := by decide +kernel
theorem dL_law_610 : decode cL_law 610 = .ok (.invokevirtual 87, 3) := by decide +kernel
theorem dL_law_613 : decode cL_law 613 = .ok (.if_icmp .eq 359, 3) := by decide +kernel
theorem dL_law_616 : decode cL_law 616 = .ok (.iconst 0, 1) := by decide +kernel
theorem dL_law_617 : decode cL_law 617 = .ok (.ireturn, 1) := by decide +kernel
theorem dL_law_618 : decode cL_law 618 = .ok (.aload_n 1, 1) := by decide +kernel
theorem dL_law_619 : decode cL_law 619 = .ok (.invokevirtual 88, 3) := by decide +kernel
theorem dL_law_622 : decode cL_law 622 = .ok (.aload_n 2, 1) := by decide +kernel
theorem dL_law_623 : decode cL_law 623 = .ok (.invokevirtual 91, 3) := by decide +kernel
theorem dL_law_626 : decode cL_law 626 = .ok (.if_icmp .eq 346, 3) := by decide +kernel
theorem dL_law_629 : decode cL_law 629 = .ok (.iconst 0, 1) := by decide +kernel
theorem dL_law_630 : decode cL_law 630 = .ok (.ireturn, 1) := by decide +kernel
theorem dL_law_631 : decode cL_law 631 = .ok (.aload_n 1, 1) := by decide +kernel
theorem dL_law_632 : decode cL_law 632 = .ok (.aload_n 0, 1) := by decide +kernel
theorem dL_law_633 : decode cL_law 633 = .ok (.iload_n 3, 1) := by decide +kernel
theorem dL_law_634 : decode cL_law 634 = .ok (.iconst 1, 1) := by decide +kernel
theorem dL_law_635 : decode cL_law 635 = .ok (.iadd, 1) := by decide +kernel
theorem dL_law_636 : decode cL_law 636 = .ok (.iaload, 1) := by decide +kernel
theorem dL_law_637 : decode cL_law 637 = .ok (.invokevirtual 92, 3) := by decide +kernel
theorem dL_law_640 : decode cL_law 640 = .ok (.aload_n 2, 1) := by decide +kernel
theorem dL_law_641 : decode cL_law 641 = .ok (.aload_n 0, 1) := by decide +kernel
theorem dL_law_642 : decode cL_law 642 = .ok (.iload_n 3, 1) := by decide +kernel
theorem dL_law_643 : decode cL_law 643 = .ok (.iconst 1, 1) := by decide +kernel
theorem dL_law_644 : decode cL_law 644 = .ok (.iadd, 1) := by decide +kernel
theorem dL_law_645 : decode cL_law 645 = .ok (.iaload, 1) := by decide +kernel
theorem dL_law_646 : decode cL_law 646 = .ok (.invokevirtual 95, 3) := by decide +kernel
theorem dL_law_649 : decode cL_law 649 = .ok (.if_icmp .eq 323, 3) := by decide +kernel
theorem dL_law_652 : decode cL_law 652 = .ok (.iconst 0, 1) := by decide +kernel
theorem dL_law_653 : decode cL_law 653 = .ok (.ireturn, 1) := by decide +kernel
theorem dL_law_654 : decode cL_law 654 = .ok (.aload_n 1, 1) := by decide +kernel
theorem dL_law_655 : decode cL_law 655 = .ok (.invokevirtual 96, 3) := by decide +kernel
theorem dL_law_658 : decode cL_law 658 = .ok (.aload_n 2, 1) := by decide +kernel
theorem dL_law_659 : decode cL_law 659 = .ok (.invokevirtual 99, 3) := by decide +kernel
theorem dL_law_662 : decode cL_law 662 = .ok (.if_icmp .eq 310, 3) := by decide +kernel
theorem dL_law_665 : decode cL_law 665 = .ok (.iconst 0, 1) := by decide +kernel
theorem dL_law_666 : decode cL_law 666 = .ok (.ireturn, 1) := by decide +kernel
theorem dL_law_667 : decode cL_law 667 = .ok (.aload_n 1, 1) := by decide +kernel
theorem dL_law_668 : decode cL_law 668 = .ok (.aload_n 0, 1) := by decide +kernel
theorem dL_law_669 : decode cL_law 669 = .ok (.iload_n 3, 1) := by decide +kernel
theorem dL_law_670 : decode cL_law 670 = .ok (.iconst 1, 1) := by decide +kernel
theorem dL_law_671 : decode cL_law 671 = .ok (.iadd, 1) := by decide +kernel
theorem dL_law_672 : decode cL_law 672 = .ok (.iaload, 1) := by decide +kernel
theorem dL_law_673 : decode cL_law 673 = .ok (.invokevirtual 100, 3) := by decide +kernel
theorem dL_law_676 : decode cL_law 676 = .ok (.aload_n 2, 1) := by decide +kernel
theorem dL_law_677 : decode cL_law 677 = .ok (.aload_n 0, 1) := by decide +kernel
theorem dL_law_678 : decode cL_law 678 = .ok (.iload_n 3, 1) := by decide +kernel
theorem dL_law_679 : decode cL_law 679 = .ok (.iconst 1, 1) := by decide +kernel
theorem dL_law_680 : decode cL_law 680 = .ok (.iadd, 1) := by decide +kernel
theorem dL_law_681 : decode cL_law 681 = .ok (.iaload, 1) := by decide +kernel
theorem dL_law_682 : decode cL_law 682 = .ok (.invokevirtual 103, 3) := by decide +kernel
theorem dL_law_685 : decode cL_law 685 = .ok (.if_icmp .eq 287, 3) := by decide +kernel
theorem dL_law_688 : decode cL_law 688 = .ok (.iconst 0, 1) := by decide +kernel
theorem dL_law_689 : decode cL_law 689 = .ok (.ireturn, 1) := by decide +kernel
theorem dL_law_690 : decode cL_law 690 = .ok (.aload_n 1, 1) := by decide +kernel
theorem dL_law_691 : decode cL_law 691 = .ok (.aload_n 0, 1) := by decide +kernel
theorem dL_law_692 : decode cL_law 692 = .ok (.iload_n 3, 1) := by decide +kernel
theorem dL_law_693 : decode cL_law 693 = .ok (.iconst 1, 1) := by decide +kernel
theorem dL_law_694 : decode cL_law 694 = .ok (.iadd, 1) := by decide +kernel
theorem dL_law_695 : decode cL_law 695 = .ok (.iaload, 1) := by decide +kernel
theorem dL_law_696 : decode cL_law 696 = .ok (.invokevirtual 104, 3) := by decide +kernel
theorem dL_law_699 : decode cL_law 699 = .ok (.aload_n 2, 1) := by decide +kernel
theorem dL_law_700 : decode cL_law 700 = .ok (.aload_n 0, 1) := by decide +kernel
theorem dL_law_701 : decode cL_law 701 = .ok (.iload_n 3, 1) := by decide +kernel
theorem dL_law_702 : decode cL_law 702 = .ok (.iconst 1, 1) := by decide +kernel
theorem dL_law_703 : decode cL_law 703 = .ok (.iadd, 1) := by decide +kernel
theorem dL_law_704 : decode cL_law 704 = .ok (.iaload, 1) := by decide +kernel
theorem dL_law_705 : decode cL_law 705 = .ok (.invokevirtual 107, 3) := by decide +kernel
theorem dL_law_708 : decode cL_law 708 = .ok (.if_icmp .eq 264, 3) := by decide +kernel
theorem dL_law_711 : decode cL_law 711 = .ok (.iconst 0, 1) := by decide +kernel
theorem dL_law_712 : decode cL_law 712 = .ok (.ireturn, 1) := by decide +kernel
theorem dL_law_713 : decode cL_law 713 = .ok (.aload_n 1, 1) := by decide +kernel
theorem dL_law_714 : decode cL_law 714 = .ok (.aload_n 0, 1) := by decide +kernel
theorem dL_law_715 : decode cL_law 715 = .ok (.iload_n 3, 1) := by decide +kernel
theorem dL_law_716 : decode cL_law 716 = .ok (.iconst 1, 1) := by decide +kernel
theorem dL_law_717 : decode cL_law 717 = .ok (.iadd, 1) := by decide +kernel
theorem dL_law_718 : decode cL_law 718 = .ok (.iaload, 1) := by decide +kernel
theorem dL_law_719 : decode cL_law 719 = .ok (.invokevirtual 108, 3) := by decide +kernel
theorem dL_law_722 : decode cL_law 722 = .ok (.aload_n 2, 1) := by decide +kernel
theorem dL_law_723 : decode cL_law 723 = .ok (.aload_n 0, 1) := by decide +kernel
theorem dL_law_724 : decode cL_law 724 = .ok (.iload_n 3, 1) := by decide +kernel
theorem dL_law_725 : decode cL_law 725 = .ok (.iconst 1, 1) := by decide +kernel
theorem dL_law_726 : decode cL_law 726 = .ok (.iadd, 1) := by decide +kernel
theorem dL_law_727 : decode cL_law 727 = .ok (.iaload, 1) := by decide +kernel
theorem dL_law_728 : decode cL_law 728 = .ok (.invokevirtual 111, 3) := by decide +kernel
theorem dL_law_731 : decode cL_law 731 = .ok (.if_icmp .eq 241, 3) := by decide +kernel
theorem dL_law_734 : decode cL_law 734 = .ok (.iconst 0, 1) := by decide +kernel
theorem dL_law_735 : decode cL_law 735 = .ok (.ireturn, 1) := by decide +kernel
theorem dL_law_736 : decode cL_law 736 = .ok (.aload_n 1, 1) := by decide +kernel
theorem dL_law_737 : decode cL_law 737 = .ok (.aload_n 0, 1) := by decide +kernel
theorem dL_law_738 : decode cL_law 738 = .ok (.iload_n 3, 1) := by decide +kernel
theorem dL_law_739 : decode cL_law 739 = .ok (.iconst 1, 1) := by decide +kernel
theorem dL_law_740 : decode cL_law 740 = .ok (.iadd, 1) := by decide +kernel
theorem dL_law_741 : decode cL_law 741 = .ok (.iaload, 1) := by decide +kernel
theorem dL_law_742 : decode cL_law 742 = .ok (.aload_n 0, 1) := by decide +kernel
theorem dL_law_743 : decode cL_law 743 = .ok (.iload_n 3, 1) := by decide +kernel
theorem dL_law_744 : decode cL_law 744 = .ok (.iconst 2, 1) := by decide +kernel
theorem dL_law_745 : decode cL_law 745 = .ok (.iadd, 1) := by decide +kernel
theorem dL_law_746 : decode cL_law 746 = .ok (.iaload, 1) := by decide +kernel
theorem dL_law_747 : decode cL_law 747 = .ok (.invokevirtual 112, 3) := by decide +kernel
theorem dL_law_750 : decode cL_law 750 = .ok (.aload_n 2, 1) := by decide +kernel
theorem dL_law_751 : decode cL_law 751 = .ok (.aload_n 0, 1) := by decide +kernel
theorem dL_law_752 : decode cL_law 752 = .ok (.iload_n 3, 1) := by decide +kernel
theorem dL_law_753 : decode cL_law 753 = .ok (.iconst 1, 1) := by decide +kernel
theorem dL_law_754 : decode cL_law 754 = .ok (.iadd, 1) := by decide +kernel
theorem dL_law_755 : decode cL_law 755 = .ok (.iaload, 1) := by decide +kernel
theorem dL_law_756 : decode cL_law 756 = .ok (.aload_n 0, 1) := by decide +kernel
theorem dL_law_757 : decode cL_law 757 = .ok (.iload_n 3, 1) := by decide +kernel
theorem dL_law_758 : decode cL_law 758 = .ok (.iconst 2, 1) := by decide +kernel
theorem dL_law_759 : decode cL_law 759 = .ok (.iadd, 1) := by decide +kernel
theorem dL_law_760 : decode cL_law 760 = .ok (.iaload, 1) := by decide +kernel
theorem dL_law_761 : decode cL_law 761 = .ok (.invokevirtual 115, 3) := by decide +kernel
theorem dL_law_764 : decode cL_law 764 = .ok (.if_icmp .eq 208, 3) := by decide +kernel
theorem dL_law_767 : decode cL_law 767 = .ok (.iconst 0, 1) := by decide +kernel
theorem dL_law_768 : decode cL_law 768 = .ok (.ireturn, 1) := by decide +kernel
theorem dL_law_769 : decode cL_law 769 = .ok (.aload_n 1, 1) := by decide +kernel
theorem dL_law_770 : decode cL_law 770 = .ok (.aload_n 0, 1) := by decide +kernel
theorem dL_law_771 : decode cL_law 771 = .ok (.iload_n 3, 1) := by decide +kernel
theorem dL_law_772 : decode cL_law 772 = .ok (.iconst 1, 1) := by decide +kernel
theorem dL_law_773 : decode cL_law 773 = .ok (.iadd, 1) := by decide +kernel
theorem dL_law_774 : decode cL_law 774 = .ok (.iaload, 1) := by decide +kernel
theorem dL_law_775 : decode cL_law 775 = .ok (.aload_n 0, 1) := by decide +kernel
theorem dL_law_776 : decode cL_law 776 = .ok (.iload_n 3, 1) := by decide +kernel
theorem dL_law_777 : decode cL_law 777 = .ok (.iconst 2, 1) := by decide +kernel
theorem dL_law_778 : decode cL_law 778 = .ok (.iadd, 1) := by decide +kernel
theorem dL_law_779 : decode cL_law 779 = .ok (.iaload, 1) := by decide +kernel
theorem dL_law_780 : decode cL_law 780 = .ok (.ifCond .eq 7, 3) := by decide +kernel
theorem dL_law_783 : decode cL_law 783 = .ok (.iconst 1, 1) := by decide +kernel
theorem dL_law_784 : decode cL_law 784 = .ok (.goto 4, 3) := by decide +kernel
theorem dL_law_787 : decode cL_law 787 = .ok (.iconst 0, 1) := by decide +kernel
theorem dL_law_788 : decode cL_law 788 = .ok (.invokevirtual 116, 3) := by decide +kernel
theorem dL_law_791 : decode cL_law 791 = .ok (.aload_n 2, 1) := by decide +kernel
theorem dL_law_792 : decode cL_law 792 = .ok (.aload_n 0, 1) := by decide +kernel
theorem dL_law_793 : decode cL_law 793 = .ok (.iload_n 3, 1) := by decide +kernel
theorem dL_law_794 : decode cL_law 794 = .ok (.iconst 1, 1) := by decide +kernel
theorem dL_law_795 : decode cL_law 795 = .ok (.iadd, 1) := by decide +kernel
theorem dL_law_796 : decode cL_law 796 = .ok (.iaload, 1) := by decide +kernel
theorem dL_law_797 : decode cL_law 797 = .ok (.aload_n 0, 1) := by decide +kernel
theorem dL_law_798 : decode cL_law 798 = .ok (.iload_n 3, 1) := by decide +kernel
theorem dL_law_799 : decode cL_law 799 = .ok (.iconst 2, 1) := by decide +kernel
theorem dL_law_800 : decode cL_law 800 = .ok (.iadd, 1) := by decide +kernel
theorem dL_law_801 : decode cL_law 801 = .ok (.iaload, 1) := by decide +kernel
theorem dL_law_802 : decode cL_law 802 = .ok (.ifCond .eq 7, 3) := by decide +kernel
theorem dL_law_805 : decode cL_law 805 = .ok (.iconst 1, 1) := by decide +kernel
theorem dL_law_806 : decode cL_law 806 = .ok (.goto 4, 3) := by decide +kernel
theorem dL_law_809 : decode cL_law 809 = .ok (.iconst 0, 1) := by decide +kernel
theorem dL_law_810 : decode cL_law 810 = .ok (.invokevirtual 120, 3) := by decide +kernel
theorem dL_law_813 : decode cL_law 813 = .ok (.if_icmp .eq 159, 3) := by decide +kernel
theorem dL_law_816 : decode cL_law 816 = .ok (.iconst 0, 1) := by decide +kernel
theorem dL_law_817 : decode cL_law 817 = .ok (.ireturn, 1) := by decide +kernel
theorem dL_law_818 : decode cL_law 818 = .ok (.aload_n 1, 1) := by decide +kernel
theorem dL_law_819 : decode cL_law 819 = .ok (.invokevirtual 121, 3) := by decide +kernel
theorem dL_law_822 : decode cL_law 822 = .ok (.aload_n 2, 1) := by decide +kernel
theorem dL_law_823 : decode cL_law 823 = .ok (.invokevirtual 124, 3) := by decide +kernel
theorem dL_law_826 : decode cL_law 826 = .ok (.if_icmp .eq 146, 3) := by decide +kernel
theorem dL_law_829 : decode cL_law 829 = .ok (.iconst 0, 1) := by decide +kernel
theorem dL_law_830 : decode cL_law 830 = .ok (.ireturn, 1) := by decide +kernel
theorem dL_law_831 : decode cL_law 831 = .ok (.aload_n 1, 1) := by decide +kernel
theorem dL_law_832 : decode cL_law 832 = .ok (.invokevirtual 125, 3) := by decide +kernel
theorem dL_law_835 : decode cL_law 835 = .ok (.aload_n 2, 1) := by decide +kernel
theorem dL_law_836 : decode cL_law 836 = .ok (.invokevirtual 128, 3) := by decide +kernel
theorem dL_law_839 : decode cL_law 839 = .ok (.if_icmp .eq 133, 3) := by decide +kernel
theorem dL_law_842 : decode cL_law 842 = .ok (.iconst 0, 1) := by decide +kernel
theorem dL_law_843 : decode cL_law 843 = .ok (.ireturn, 1) := by decide +kernel
theorem dL_law_844 : decode cL_law 844 = .ok (.aload_n 1, 1) := by decide +kernel
theorem dL_law_845 : decode cL_law 845 = .ok (.aload_n 0, 1) := by decide +kernel
theorem dL_law_846 : decode cL_law 846 = .ok (.iload_n 3, 1) := by decide +kernel
theorem dL_law_847 : decode cL_law 847 = .ok (.iconst 1, 1) := by decide +kernel
theorem dL_law_848 : decode cL_law 848 = .ok (.iadd, 1) := by decide +kernel
theorem dL_law_849 : decode cL_law 849 = .ok (.iaload, 1) := by decide +kernel
theorem dL_law_850 : decode cL_law 850 = .ok (.aload_n 0, 1) := by decide +kernel
theorem dL_law_851 : decode cL_law 851 = .ok (.iload_n 3, 1) := by decide +kernel
theorem dL_law_852 : decode cL_law 852 = .ok (.iconst 2, 1) := by decide +kernel
theorem dL_law_853 : decode cL_law 853 = .ok (.iadd, 1) := by decide +kernel
theorem dL_law_854 : decode cL_law 854 = .ok (.iaload, 1) := by decide +kernel
theorem dL_law_855 : decode cL_law 855 = .ok (.invokevirtual 129, 3) := by decide +kernel
theorem dL_law_858 : decode cL_law 858 = .ok (.aload_n 2, 1) := by decide +kernel
theorem dL_law_859 : decode cL_law 859 = .ok (.aload_n 0, 1) := by decide +kernel
theorem dL_law_860 : decode cL_law 860 = .ok (.iload_n 3, 1) := by decide +kernel
theorem dL_law_861 : decode cL_law 861 = .ok (.iconst 1, 1) := by decide +kernel
theorem dL_law_862 : decode cL_law 862 = .ok (.iadd, 1) := by decide +kernel
theorem dL_law_863 : decode cL_law 863 = .ok (.iaload, 1) := by decide +kernel
theorem dL_law_864 : decode cL_law 864 = .ok (.aload_n 0, 1) := by decide +kernel
theorem dL_law_865 : decode cL_law 865 = .ok (.iload_n 3, 1) := by decide +kernel
theorem dL_law_866 : decode cL_law 866 = .ok (.iconst 2, 1) := by decide +kernel
theorem dL_law_867 : decode cL_law 867 = .ok (.iadd, 1) := by decide +kernel
theorem dL_law_868 : decode cL_law 868 = .ok (.iaload, 1) := by decide +kernel
theorem dL_law_869 : decode cL_law 869 = .ok (.invokevirtual 132, 3) := by decide +kernel
theorem dL_law_872 : decode cL_law 872 = .ok (.if_icmp .eq 100, 3) := by decide +kernel
theorem dL_law_875 : decode cL_law 875 = .ok (.iconst 0, 1) := by decide +kernel
theorem dL_law_876 : decode cL_law 876 = .ok (.ireturn, 1) := by decide +kernel
theorem dL_law_877 : decode cL_law 877 = .ok (.aload_n 1, 1) := by decide +kernel
theorem dL_law_878 : decode cL_law 878 = .ok (.invokevirtual 133, 3) := by decide +kernel
theorem dL_law_881 : decode cL_law 881 = .ok (.aload_n 2, 1) := by decide +kernel
theorem dL_law_882 : decode cL_law 882 = .ok (.invokevirtual 136, 3) := by decide +kernel
theorem dL_law_885 : decode cL_law 885 = .ok (.if_icmp .eq 87, 3) := by decide +kernel
theorem dL_law_888 : decode cL_law 888 = .ok (.iconst 0, 1) := by decide +kernel
theorem dL_law_889 : decode cL_law 889 = .ok (.ireturn, 1) := by decide +kernel
theorem dL_law_890 : decode cL_law 890 = .ok (.aload_n 1, 1) := by decide +kernel
theorem dL_law_891 : decode cL_law 891 = .ok (.invokevirtual 137, 3) := by decide +kernel
theorem dL_law_894 : decode cL_law 894 = .ok (.aload_n 2, 1) := by decide +kernel
theorem dL_law_895 : decode cL_law 895 = .ok (.invokevirtual 140, 3) := by decide +kernel
theorem dL_law_898 : decode cL_law 898 = .ok (.if_icmp .eq 74, 3) := by decide +kernel
theorem dL_law_901 : decode cL_law 901 = .ok (.iconst 0, 1) := by decide +kernel
theorem dL_law_902 : decode cL_law 902 = .ok (.ireturn, 1) := by decide +kernel
theorem dL_law_903 : decode cL_law 903 = .ok (.aload_n 1, 1) := by decide +kernel
theorem dL_law_904 : decode cL_law 904 = .ok (.aload_n 0, 1) := by decide +kernel
theorem dL_law_905 : decode cL_law 905 = .ok (.iload_n 3, 1) := by decide +kernel
theorem dL_law_906 : decode cL_law 906 = .ok (.iconst 1, 1) := by decide +kernel
theorem dL_law_907 : decode cL_law 907 = .ok (.iadd, 1) := by decide +kernel
theorem dL_law_908 : decode cL_law 908 = .ok (.iaload, 1) := by decide +kernel
theorem dL_law_909 : decode cL_law 909 = .ok (.invokevirtual 141, 3) := by decide +kernel
theorem dL_law_912 : decode cL_law 912 = .ok (.aload_n 2, 1) := by decide +kernel
theorem dL_law_913 : decode cL_law 913 = .ok (.aload_n 0, 1) := by decide +kernel
theorem dL_law_914 : decode cL_law 914 = .ok (.iload_n 3, 1) := by decide +kernel
theorem dL_law_915 : decode cL_law 915 = .ok (.iconst 1, 1) := by decide +kernel
theorem dL_law_916 : decode cL_law 916 = .ok (.iadd, 1) := by decide +kernel
theorem dL_law_917 : decode cL_law 917 = .ok (.iaload, 1) := by decide +kernel
theorem dL_law_918 : decode cL_law 918 = .ok (.invokevirtual 144, 3) := by decide +kernel
theorem dL_law_921 : decode cL_law 921 = .ok (.if_icmp .eq 51, 3) := by decide +kernel
theorem dL_law_924 : decode cL_law 924 = .ok (.iconst 0, 1) := by decide +kernel
theorem dL_law_925 : decode cL_law 925 = .ok (.ireturn, 1) := by decide +kernel
theorem dL_law_926 : decode cL_law 926 = .ok (.aload_n 1, 1) := by decide +kernel
theorem dL_law_927 : decode cL_law 927 = .ok (.aload_n 0, 1) := by decide +kernel
theorem dL_law_928 : decode cL_law 928 = .ok (.iload_n 3, 1) := by decide +kernel
theorem dL_law_929 : decode cL_law 929 = .ok (.iconst 1, 1) := by decide +kernel
theorem dL_law_930 : decode cL_law 930 = .ok (.iadd, 1) := by decide +kernel
theorem dL_law_931 : decode cL_law 931 = .ok (.iaload, 1) := by decide +kernel
theorem dL_law_932 : decode cL_law 932 = .ok (.invokevirtual 145, 3) := by decide +kernel
theorem dL_law_935 : decode cL_law 935 = .ok (.aload_n 2, 1) := by decide +kernel
theorem dL_law_936 : decode cL_law 936 = .ok (.aload_n 0, 1) := by decide +kernel
theorem dL_law_937 : decode cL_law 937 = .ok (.iload_n 3, 1) := by decide +kernel
theorem dL_law_938 : decode cL_law 938 = .ok (.iconst 1, 1) := by decide +kernel
theorem dL_law_939 : decode cL_law 939 = .ok (.iadd, 1) := by decide +kernel
theorem dL_law_940 : decode cL_law 940 = .ok (.iaload, 1) := by decide +kernel
theorem dL_law_941 : decode cL_law 941 = .ok (.invokevirtual 148, 3) := by decide +kernel
theorem dL_law_944 : decode cL_law 944 = .ok (.if_icmp .eq 28, 3) := by decide +kernel
theorem dL_law_947 : decode cL_law 947 = .ok (.iconst 0, 1) := by decide +kernel
theorem dL_law_948 : decode cL_law 948 = .ok (.ireturn, 1) := by decide +kernel
theorem dL_law_949 : decode cL_law 949 = .ok (.aload_n 1, 1) := by decide +kernel
theorem dL_law_950 : decode cL_law 950 = .ok (.aload_n 0, 1) := by decide +kernel
theorem dL_law_951 : decode cL_law 951 = .ok (.iload_n 3, 1) := by decide +kernel
theorem dL_law_952 : decode cL_law 952 = .ok (.iconst 1, 1) := by decide +kernel
theorem dL_law_953 : decode cL_law 953 = .ok (.iadd, 1) := by decide +kernel
theorem dL_law_954 : decode cL_law 954 = .ok (.iaload, 1) := by decide +kernel
theorem dL_law_955 : decode cL_law 955 = .ok (.invokevirtual 149, 3) := by decide +kernel
theorem dL_law_958 : decode cL_law 958 = .ok (.aload_n 2, 1) := by decide +kernel
theorem dL_law_959 : decode cL_law 959 = .ok (.aload_n 0, 1) := by decide +kernel
theorem dL_law_960 : decode cL_law 960 = .ok (.iload_n 3, 1) := by decide +kernel
theorem dL_law_961 : decode cL_law 961 = .ok (.iconst 1, 1) := by decide +kernel
theorem dL_law_962 : decode cL_law 962 = .ok (.iadd, 1) := by decide +kernel
theorem dL_law_963 : decode cL_law 963 = .ok (.iaload, 1) := by decide +kernel
theorem dL_law_964 : decode cL_law 964 = .ok (.invokevirtual 152, 3) := by decide +kernel
theorem dL_law_967 : decode cL_law 967 = .ok (.if_icmp .eq 5, 3) := by decide +kernel
theorem dL_law_970 : decode cL_law 970 = .ok (.iconst 0, 1) := by decide +kernel
theorem dL_law_971 : decode cL_law 971 = .ok (.ireturn, 1) := by decide +kernel
theorem dL_law_972 : decode cL_law 972 = .ok (.iinc 3 3, 3) := by decide +kernel
theorem dL_law_975 : decode cL_law 975 = .ok (.goto (-957), 3) := by decide +kernel
theorem dL_law_978 : decode cL_law 978 = .ok (.iconst 1, 1) := by decide +kernel
theorem dL_law_979 : decode cL_law 979 = .ok (.ireturn, 1) := by decide +kernel
end
section
/-- what each cell is: an object of a class, or an array (0 ints, 1 booleans, 2 States) of a length -/
def kg_SHl : List (Nat ⊕ (Nat × Nat)) := [.inl 7, .inl 6, .inr (0, 240), .inl 5, .inr (0, 7), .inr (0, 5), .inr (0, 20), .inl 4, .inr (2, 20), .inl 5, .inr (0, 7), .inr (0, 5), .inr (0, 20), .inl 5, .inr (0, 7), .inr (0, 5), .inr (0, 20), .inl 5, .inr (0, 7), .inr (0, 5), .inr (0, 20), .inl 5, .inr (0, 7), .inr (0, 5), .inr (0, 20), .inl 5, .inr (0, 7), .inr (0, 5), .inr (0, 20), .inl 5, .inr (0, 7), .inr (0, 5), .inr (0, 20), .inl 5, .inr (0, 7), .inr (0, 5), .inr (0, 20), .inl 5, .inr (0, 7), .inr (0, 5), .inr (0, 20), .inl 5, .inr (0, 7), .inr (0, 5), .inr (0, 20), .inl 5, .inr (0, 7), .inr (0, 5), .inr (0, 20), .inl 5, .inr (0, 7), .inr (0, 5), .inr (0, 20), .inl 5, .inr (0, 7), .inr (0, 5), .inr (0, 20), .inl 5, .inr (0, 7), .inr (0, 5), .inr (0, 20), .inl 5, .inr (0, 7), .inr (0, 5), .inr (0, 20), .inl 5, .inr (0, 7), .inr (0, 5), .inr (0, 20), .inl 5, .inr (0, 7), .inr (0, 5), .inr (0, 20), .inl 5, .inr (0, 7), .inr (0, 5), .inr (0, 20), .inl 5, .inr (0, 7), .inr (0, 5), .inr (0, 20), .inl 5, .inr (0, 7), .inr (0, 5), .inr (0, 20), .inl 5, .inr (0, 7), .inr (0, 5), .inr (0, 20), .inl 2, .inr (0, 15), .inr (0, 15), .inl 3, .inr (0, 7), .inr (0, 7), .inl 1, .inr (0, 128), .inr (2, 2), .inl 5, .inr (0, 7), .inr (0, 5), .inr (0, 20), .inl 5, .inr (0, 7), .inr (0, 5), .inr (0, 20), .inr (1, 2), .inr (0, 2), .inr (0, 7), .inl 0, .inr (0, 5), .inr (0, 49), .inr (0, 7), .inl 0, .inr (0, 5), .inr (0, 49), .inr (0, 7), .inl 8, .inr (0, 5), .inr (0, 49), .inr (0, 55), .inr (0, 21), .inr (0, 21), .inr (0, 240), .inr (0, 5), .inr (0, 7), .inr (0, 7), .inr (0, 49), .inr (0, 1100), .inr (0, 3), .inr (0, 7), .inr (0, 7), .inr (0, 10648), .inr (0, 10648), .inr (1, 128), .inr (1, 128), .inr (0, 6), .inr (1, 6), .inr (0, 15), .inr (0, 15), .inr (0, 112), .inr (1, 2)]
def kg_SH (k : Nat) : Nat ⊕ (Nat × Nat) := kg_SHl.getD k (.inl 100)
def kg_all : Nat := 142
/-- of each class, which fields are references -/
def kg_kd : List (List Bool) := [[false, false, false, false, true, true, true], [true, false], [false, false, false, false, true, true], [true, true, false, false, false, false], [true, false, false], [false, false, false, false, false, false, true, true, true], [true, false, false, false, false, false], [true, true, true, true, true, true, true, true, true, true, true, true, false, false], [false, true, false, true, true, false, true, true, true, false, false, false, false, false, false, true, false, true, true, true, false, true, true, true, true, false, false, true, true, false, true, true, false, true, true, false, true, true, true, true]]
def kg_nest : List (String × Nat × MethodName × String) := [(RX7, 9, yX6_init, "KissGates"), (RX7, 18, yX5_init, "KissGates"), (RX4, 17, yX5_init, "KissGates"), (RX7, 32, yX2_init, "KissGates"), (RX7, 39, yX3_init, "KissGates"), (RX7, 46, yX1_init, "KissGates"), (RX7, 68, yX0_init, "KissGates")]
def kg_T : List Cond := lw_tbl.filter goodWord
theorem kg_inT {w : Cond} (i : Nat) (h : lw_tbl[i]? = some w) (hg : goodWord w = true) : w ∈ kg_T := List.mem_filter.mpr ⟨List.mem_of_getElem? h, hg⟩
theorem sh_0 : kg_SH 0 = .inl 7 := rfl
theorem sh_1 : kg_SH 1 = .inl 6 := rfl
theorem sh_2 : kg_SH 2 = .inr (0, 240) := rfl
theorem sh_3 : kg_SH 3 = .inl 5 := rfl
theorem sh_4 : kg_SH 4 = .inr (0, 7) := rfl
theorem sh_5 : kg_SH 5 = .inr (0, 5) := rfl
theorem sh_6 : kg_SH 6 = .inr (0, 20) := rfl
theorem sh_7 : kg_SH 7 = .inl 4 := rfl
theorem sh_8 : kg_SH 8 = .inr (2, 20) := rfl
theorem sh_9 : kg_SH 9 = .inl 5 := rfl
theorem sh_10 : kg_SH 10 = .inr (0, 7) := rfl
theorem sh_11 : kg_SH 11 = .inr (0, 5) := rfl
theorem sh_12 : kg_SH 12 = .inr (0, 20) := rfl
theorem sh_13 : kg_SH 13 = .inl 5 := rfl
theorem sh_14 : kg_SH 14 = .inr (0, 7) := rfl
theorem sh_15 : kg_SH 15 = .inr (0, 5) := rfl
theorem sh_16 : kg_SH 16 = .inr (0, 20) := rfl
theorem sh_17 : kg_SH 17 = .inl 5 := rfl
theorem sh_18 : kg_SH 18 = .inr (0, 7) := rfl
theorem sh_19 : kg_SH 19 = .inr (0, 5) := rfl
theorem sh_20 : kg_SH 20 = .inr (0, 20) := rfl
theorem sh_21 : kg_SH 21 = .inl 5 := rfl
theorem sh_22 : kg_SH 22 = .inr (0, 7) := rfl
theorem sh_23 : kg_SH 23 = .inr (0, 5) := rfl
theorem sh_24 : kg_SH 24 = .inr (0, 20) := rfl
theorem sh_25 : kg_SH 25 = .inl 5 := rfl
theorem sh_26 : kg_SH 26 = .inr (0, 7) := rfl
theorem sh_27 : kg_SH 27 = .inr (0, 5) := rfl
theorem sh_28 : kg_SH 28 = .inr (0, 20) := rfl
theorem sh_29 : kg_SH 29 = .inl 5 := rfl
theorem sh_30 : kg_SH 30 = .inr (0, 7) := rfl
theorem sh_31 : kg_SH 31 = .inr (0, 5) := rfl
theorem sh_32 : kg_SH 32 = .inr (0, 20) := rfl
theorem sh_33 : kg_SH 33 = .inl 5 := rfl
theorem sh_34 : kg_SH 34 = .inr (0, 7) := rfl
theorem sh_35 : kg_SH 35 = .inr (0, 5) := rfl
theorem sh_36 : kg_SH 36 = .inr (0, 20) := rfl
theorem sh_37 : kg_SH 37 = .inl 5 := rfl
theorem sh_38 : kg_SH 38 = .inr (0, 7) := rfl
theorem sh_39 : kg_SH 39 = .inr (0, 5) := rfl
theorem sh_40 : kg_SH 40 = .inr (0, 20) := rfl
theorem sh_41 : kg_SH 41 = .inl 5 := rfl
theorem sh_42 : kg_SH 42 = .inr (0, 7) := rfl
theorem sh_43 : kg_SH 43 = .inr (0, 5) := rfl
theorem sh_44 : kg_SH 44 = .inr (0, 20) := rfl
theorem sh_45 : kg_SH 45 = .inl 5 := rfl
theorem sh_46 : kg_SH 46 = .inr (0, 7) := rfl
theorem sh_47 : kg_SH 47 = .inr (0, 5) := rfl
theorem sh_48 : kg_SH 48 = .inr (0, 20) := rfl
theorem sh_49 : kg_SH 49 = .inl 5 := rfl
theorem sh_50 : kg_SH 50 = .inr (0, 7) := rfl
theorem sh_51 : kg_SH 51 = .inr (0, 5) := rfl
theorem sh_52 : kg_SH 52 = .inr (0, 20) := rfl
theorem sh_53 : kg_SH 53 = .inl 5 := rfl
theorem sh_54 : kg_SH 54 = .inr (0, 7) := rfl
theorem sh_55 : kg_SH 55 = .inr (0, 5) := rfl
theorem sh_56 : kg_SH 56 = .inr (0, 20) := rfl
theorem sh_57 : kg_SH 57 = .inl 5 := rfl
theorem sh_58 : kg_SH 58 = .inr (0, 7) := rfl
theorem sh_59 : kg_SH 59 = .inr (0, 5) := rfl
theorem sh_60 : kg_SH 60 = .inr (0, 20) := rfl
theorem sh_61 : kg_SH 61 = .inl 5 := rfl
theorem sh_62 : kg_SH 62 = .inr (0, 7) := rfl
theorem sh_63 : kg_SH 63 = .inr (0, 5) := rfl
theorem sh_64 : kg_SH 64 = .inr (0, 20) := rfl
theorem sh_65 : kg_SH 65 = .inl 5 := rfl
theorem sh_66 : kg_SH 66 = .inr (0, 7) := rfl
theorem sh_67 : kg_SH 67 = .inr (0, 5) := rfl
theorem sh_68 : kg_SH 68 = .inr (0, 20) := rfl
theorem sh_69 : kg_SH 69 = .inl 5 := rfl
theorem sh_70 : kg_SH 70 = .inr (0, 7) := rfl
theorem sh_71 : kg_SH 71 = .inr (0, 5) := rfl
theorem sh_72 : kg_SH 72 = .inr (0, 20) := rfl
theorem sh_73 : kg_SH 73 = .inl 5 := rfl
theorem sh_74 : kg_SH 74 = .inr (0, 7) := rfl
theorem sh_75 : kg_SH 75 = .inr (0, 5) := rfl
theorem sh_76 : kg_SH 76 = .inr (0, 20) := rfl
theorem sh_77 : kg_SH 77 = .inl 5 := rfl
theorem sh_78 : kg_SH 78 = .inr (0, 7) := rfl
theorem sh_79 : kg_SH 79 = .inr (0, 5) := rfl
theorem sh_80 : kg_SH 80 = .inr (0, 20) := rfl
theorem sh_81 : kg_SH 81 = .inl 5 := rfl
theorem sh_82 : kg_SH 82 = .inr (0, 7) := rfl
theorem sh_83 : kg_SH 83 = .inr (0, 5) := rfl
theorem sh_84 : kg_SH 84 = .inr (0, 20) := rfl
theorem sh_85 : kg_SH 85 = .inl 5 := rfl
theorem sh_86 : kg_SH 86 = .inr (0, 7) := rfl
theorem sh_87 : kg_SH 87 = .inr (0, 5) := rfl
theorem sh_88 : kg_SH 88 = .inr (0, 20) := rfl
theorem sh_89 : kg_SH 89 = .inl 2 := rfl
theorem sh_90 : kg_SH 90 = .inr (0, 15) := rfl
theorem sh_91 : kg_SH 91 = .inr (0, 15) := rfl
theorem sh_92 : kg_SH 92 = .inl 3 := rfl
theorem sh_93 : kg_SH 93 = .inr (0, 7) := rfl
theorem sh_94 : kg_SH 94 = .inr (0, 7) := rfl
theorem sh_95 : kg_SH 95 = .inl 1 := rfl
theorem sh_96 : kg_SH 96 = .inr (0, 128) := rfl
theorem sh_97 : kg_SH 97 = .inr (2, 2) := rfl
theorem sh_98 : kg_SH 98 = .inl 5 := rfl
theorem sh_99 : kg_SH 99 = .inr (0, 7) := rfl
theorem sh_100 : kg_SH 100 = .inr (0, 5) := rfl
theorem sh_101 : kg_SH 101 = .inr (0, 20) := rfl
theorem sh_102 : kg_SH 102 = .inl 5 := rfl
theorem sh_103 : kg_SH 103 = .inr (0, 7) := rfl
theorem sh_104 : kg_SH 104 = .inr (0, 5) := rfl
theorem sh_105 : kg_SH 105 = .inr (0, 20) := rfl
theorem sh_106 : kg_SH 106 = .inr (1, 2) := rfl
theorem sh_107 : kg_SH 107 = .inr (0, 2) := rfl
theorem sh_108 : kg_SH 108 = .inr (0, 7) := rfl
theorem sh_109 : kg_SH 109 = .inl 0 := rfl
theorem sh_110 : kg_SH 110 = .inr (0, 5) := rfl
theorem sh_111 : kg_SH 111 = .inr (0, 49) := rfl
theorem sh_112 : kg_SH 112 = .inr (0, 7) := rfl
theorem sh_113 : kg_SH 113 = .inl 0 := rfl
theorem sh_114 : kg_SH 114 = .inr (0, 5) := rfl
theorem sh_115 : kg_SH 115 = .inr (0, 49) := rfl
theorem sh_116 : kg_SH 116 = .inr (0, 7) := rfl
theorem sh_117 : kg_SH 117 = .inl 8 := rfl
theorem sh_118 : kg_SH 118 = .inr (0, 5) := rfl
theorem sh_119 : kg_SH 119 = .inr (0, 49) := rfl
theorem sh_120 : kg_SH 120 = .inr (0, 55) := rfl
theorem sh_121 : kg_SH 121 = .inr (0, 21) := rfl
theorem sh_122 : kg_SH 122 = .inr (0, 21) := rfl
theorem sh_123 : kg_SH 123 = .inr (0, 240) := rfl
theorem sh_124 : kg_SH 124 = .inr (0, 5) := rfl
theorem sh_125 : kg_SH 125 = .inr (0, 7) := rfl
theorem sh_126 : kg_SH 126 = .inr (0, 7) := rfl
theorem sh_127 : kg_SH 127 = .inr (0, 49) := rfl
theorem sh_128 : kg_SH 128 = .inr (0, 1100) := rfl
theorem sh_129 : kg_SH 129 = .inr (0, 3) := rfl
theorem sh_130 : kg_SH 130 = .inr (0, 7) := rfl
theorem sh_131 : kg_SH 131 = .inr (0, 7) := rfl
theorem sh_132 : kg_SH 132 = .inr (0, 10648) := rfl
theorem sh_133 : kg_SH 133 = .inr (0, 10648) := rfl
theorem sh_134 : kg_SH 134 = .inr (1, 128) := rfl
theorem sh_135 : kg_SH 135 = .inr (1, 128) := rfl
theorem sh_136 : kg_SH 136 = .inr (0, 6) := rfl
theorem sh_137 : kg_SH 137 = .inr (1, 6) := rfl
theorem sh_138 : kg_SH 138 = .inr (0, 15) := rfl
theorem sh_139 : kg_SH 139 = .inr (0, 15) := rfl
theorem sh_140 : kg_SH 140 = .inr (0, 112) := rfl
theorem sh_141 : kg_SH 141 = .inr (1, 2) := rfl
end
section
theorem lkK_L_7 : Cond.classLink RL 7 RX7 ∈ kg_T := kg_inT 79 (by decide +kernel) rfl
theorem lkM_L_9 : Cond.methodLink RL 9 yX7_init ∈ kg_T := kg_inT 81 (by decide +kernel) rfl
theorem lkM_X7_1 : Cond.methodLink RX7 1 Lib.objectInit ∈ kg_T := kg_inT 84 (by decide +kernel) rfl
theorem lkK_X7_7 : Cond.classLink RX7 7 RX6 ∈ kg_T := kg_inT 87 (by decide +kernel) rfl
theorem lkN_X7_9 : (RX7, 9, yX6_init, "KissGates") ∈ kg_nest := by simp [kg_nest]
theorem lkM_X6_3 : Cond.methodLink RX6 3 Lib.objectInit ∈ kg_T := kg_inT 92 (by decide +kernel) rfl
theorem lkF_X6_9 : Cond.fieldLink RX6 9 "KissGates$Text" "letters" "[I" ∈ kg_T := kg_inT 93 (by decide +kernel) rfl
theorem lkF_X6_15 : Cond.fieldLink RX6 15 "KissGates$Text" "length" "I" ∈ kg_T := kg_inT 94 (by decide +kernel) rfl
theorem lkF_X7_91 : Cond.fieldLink RX7 91 "KissGates$Text" "length" "I" ∈ kg_T := kg_inT 95 (by decide +kernel) rfl
theorem lkF_X6_19 : Cond.fieldLink RX6 19 "KissGates$Text" "at" "I" ∈ kg_T := kg_inT 96 (by decide +kernel) rfl
theorem lkF_X6_79 : Cond.fieldLink RX6 79 "KissGates$Text" "numberAt" "I" ∈ kg_T := kg_inT 97 (by decide +kernel) rfl
theorem lkF_X6_22 : Cond.fieldLink RX6 22 "KissGates$Text" "fault" "I" ∈ kg_T := kg_inT 98 (by decide +kernel) rfl
theorem lkF_X6_25 : Cond.fieldLink RX6 25 "KissGates$Text" "faultAt" "I" ∈ kg_T := kg_inT 99 (by decide +kernel) rfl
theorem lkF_X7_103 : Cond.fieldLink RX7 103 "KissGates$Text" "faultAt" "I" ∈ kg_T := kg_inT 100 (by decide +kernel) rfl
theorem lkK_X7_16 : Cond.classLink RX7 16 RX5 ∈ kg_T := kg_inT 115 (by decide +kernel) rfl
theorem lkN_X7_18 : (RX7, 18, yX5_init, "KissGates") ∈ kg_nest := by simp [kg_nest]
theorem lkM_X5_3 : Cond.methodLink RX5 3 Lib.objectInit ∈ kg_T := kg_inT 120 (by decide +kernel) rfl
theorem lkF_X5_21 : Cond.fieldLink RX5 21 "KissGates$State" "hours" "I" ∈ kg_T := kg_inT 121 (by decide +kernel) rfl
theorem lkF_X7_116 : Cond.fieldLink RX7 116 "KissGates$State" "hours" "I" ∈ kg_T := kg_inT 122 (by decide +kernel) rfl
theorem lkF_X5_25 : Cond.fieldLink RX5 25 "KissGates$State" "meetings" "I" ∈ kg_T := kg_inT 123 (by decide +kernel) rfl
theorem lkF_X7_119 : Cond.fieldLink RX7 119 "KissGates$State" "meetings" "I" ∈ kg_T := kg_inT 124 (by decide +kernel) rfl
theorem lkF_X5_28 : Cond.fieldLink RX5 28 "KissGates$State" "holes" "I" ∈ kg_T := kg_inT 125 (by decide +kernel) rfl
theorem lkF_X7_122 : Cond.fieldLink RX7 122 "KissGates$State" "holes" "I" ∈ kg_T := kg_inT 126 (by decide +kernel) rfl
theorem lkF_X5_36 : Cond.fieldLink RX5 36 "KissGates$State" "inside" "I" ∈ kg_T := kg_inT 127 (by decide +kernel) rfl
theorem lkF_X7_125 : Cond.fieldLink RX7 125 "KissGates$State" "inside" "I" ∈ kg_T := kg_inT 128 (by decide +kernel) rfl
theorem lkF_X5_42 : Cond.fieldLink RX5 42 "KissGates$State" "colds" "I" ∈ kg_T := kg_inT 129 (by decide +kernel) rfl
theorem lkF_X7_128 : Cond.fieldLink RX7 128 "KissGates$State" "colds" "I" ∈ kg_T := kg_inT 130 (by decide +kernel) rfl
theorem lkF_X5_45 : Cond.fieldLink RX5 45 "KissGates$State" "logged" "I" ∈ kg_T := kg_inT 131 (by decide +kernel) rfl
theorem lkF_X7_137 : Cond.fieldLink RX7 137 "KissGates$State" "logged" "I" ∈ kg_T := kg_inT 132 (by decide +kernel) rfl
theorem lkF_X5_9 : Cond.fieldLink RX5 9 "KissGates$State" "waitsAt" "[I" ∈ kg_T := kg_inT 133 (by decide +kernel) rfl
theorem lkF_X7_171 : Cond.fieldLink RX7 171 "KissGates$State" "waitsAt" "[I" ∈ kg_T := kg_inT 134 (by decide +kernel) rfl
theorem lkF_X5_15 : Cond.fieldLink RX5 15 "KissGates$State" "unused" "[I" ∈ kg_T := kg_inT 135 (by decide +kernel) rfl
theorem lkF_X7_157 : Cond.fieldLink RX7 157 "KissGates$State" "unused" "[I" ∈ kg_T := kg_inT 136 (by decide +kernel) rfl
theorem lkF_X5_18 : Cond.fieldLink RX5 18 "KissGates$State" "log" "[I" ∈ kg_T := kg_inT 137 (by decide +kernel) rfl
theorem lkF_X7_181 : Cond.fieldLink RX7 181 "KissGates$State" "log" "[I" ∈ kg_T := kg_inT 138 (by decide +kernel) rfl
theorem lkK_X7_23 : Cond.classLink RX7 23 RX4 ∈ kg_T := kg_inT 158 (by decide +kernel) rfl
theorem lkM_X7_25 : Cond.methodLink RX7 25 yX4_init ∈ kg_T := kg_inT 160 (by decide +kernel) rfl
theorem lkM_X4_3 : Cond.methodLink RX4 3 Lib.objectInit ∈ kg_T := kg_inT 163 (by decide +kernel) rfl
theorem lkK_X4_9 : Cond.classLink RX4 9 RX5 ∈ kg_T := kg_inT 164 (by decide +kernel) rfl
theorem lkN_X4_17 : (RX4, 17, yX5_init, "KissGates") ∈ kg_nest := by simp [kg_nest]
theorem lkF_X4_11 : Cond.fieldLink RX4 11 "KissGates$Past" "states" "[LKissGates$State;" ∈ kg_T := kg_inT 167 (by decide +kernel) rfl
theorem lkF_X4_18 : Cond.fieldLink RX4 18 "KissGates$Past" "next" "I" ∈ kg_T := kg_inT 168 (by decide +kernel) rfl
theorem lkF_X4_26 : Cond.fieldLink RX4 26 "KissGates$Past" "count" "I" ∈ kg_T := kg_inT 169 (by decide +kernel) rfl
theorem lkF_X7_146 : Cond.fieldLink RX7 146 "KissGates$Past" "count" "I" ∈ kg_T := kg_inT 170 (by decide +kernel) rfl
theorem lkK_X7_30 : Cond.classLink RX7 30 RX2 ∈ kg_T := kg_inT 178 (by decide +kernel) rfl
theorem lkN_X7_32 : (RX7, 32, yX2_init, "KissGates") ∈ kg_nest := by simp [kg_nest]
theorem lkM_X2_3 : Cond.methodLink RX2 3 Lib.objectInit ∈ kg_T := kg_inT 183 (by decide +kernel) rfl
theorem lkF_X2_18 : Cond.fieldLink RX2 18 "KissGates$Notes" "known" "I" ∈ kg_T := kg_inT 184 (by decide +kernel) rfl
theorem lkF_X7_140 : Cond.fieldLink RX7 140 "KissGates$Notes" "known" "I" ∈ kg_T := kg_inT 185 (by decide +kernel) rfl
theorem lkF_X2_22 : Cond.fieldLink RX2 22 "KissGates$Notes" "ill" "I" ∈ kg_T := kg_inT 186 (by decide +kernel) rfl
theorem lkF_X2_25 : Cond.fieldLink RX2 25 "KissGates$Notes" "sound" "I" ∈ kg_T := kg_inT 187 (by decide +kernel) rfl
theorem lkF_X2_28 : Cond.fieldLink RX2 28 "KissGates$Notes" "written" "I" ∈ kg_T := kg_inT 188 (by decide +kernel) rfl
theorem lkF_X7_143 : Cond.fieldLink RX7 143 "KissGates$Notes" "written" "I" ∈ kg_T := kg_inT 189 (by decide +kernel) rfl
theorem lkF_X2_9 : Cond.fieldLink RX2 9 "KissGates$Notes" "who" "[I" ∈ kg_T := kg_inT 190 (by decide +kernel) rfl
theorem lkF_X2_15 : Cond.fieldLink RX2 15 "KissGates$Notes" "where" "[I" ∈ kg_T := kg_inT 191 (by decide +kernel) rfl
theorem lkK_X7_37 : Cond.classLink RX7 37 RX3 ∈ kg_T := kg_inT 205 (by decide +kernel) rfl
theorem lkN_X7_39 : (RX7, 39, yX3_init, "KissGates") ∈ kg_nest := by simp [kg_nest]
theorem lkM_X3_3 : Cond.methodLink RX3 3 Lib.objectInit ∈ kg_T := kg_inT 210 (by decide +kernel) rfl
theorem lkF_X3_9 : Cond.fieldLink RX3 9 "KissGates$Pairing" "other" "[I" ∈ kg_T := kg_inT 211 (by decide +kernel) rfl
theorem lkF_X7_220 : Cond.fieldLink RX7 220 "KissGates$Pairing" "other" "[I" ∈ kg_T := kg_inT 212 (by decide +kernel) rfl
theorem lkF_X3_15 : Cond.fieldLink RX3 15 "KissGates$Pairing" "trial" "[I" ∈ kg_T := kg_inT 213 (by decide +kernel) rfl
theorem lkF_X3_25 : Cond.fieldLink RX3 25 "KissGates$Pairing" "pairs" "I" ∈ kg_T := kg_inT 214 (by decide +kernel) rfl
theorem lkF_X7_215 : Cond.fieldLink RX7 215 "KissGates$Pairing" "pairs" "I" ∈ kg_T := kg_inT 215 (by decide +kernel) rfl
theorem lkF_X3_28 : Cond.fieldLink RX3 28 "KissGates$Pairing" "liking" "I" ∈ kg_T := kg_inT 216 (by decide +kernel) rfl
theorem lkF_X7_218 : Cond.fieldLink RX7 218 "KissGates$Pairing" "liking" "I" ∈ kg_T := kg_inT 217 (by decide +kernel) rfl
theorem lkF_X3_18 : Cond.fieldLink RX3 18 "KissGates$Pairing" "inside" "I" ∈ kg_T := kg_inT 218 (by decide +kernel) rfl
theorem lkF_X3_22 : Cond.fieldLink RX3 22 "KissGates$Pairing" "most" "I" ∈ kg_T := kg_inT 219 (by decide +kernel) rfl
theorem lkK_X7_44 : Cond.classLink RX7 44 RX1 ∈ kg_T := kg_inT 233 (by decide +kernel) rfl
theorem lkN_X7_46 : (RX7, 46, yX1_init, "KissGates") ∈ kg_nest := by simp [kg_nest]
theorem lkM_X1_3 : Cond.methodLink RX1 3 Lib.objectInit ∈ kg_T := kg_inT 238 (by decide +kernel) rfl
theorem lkF_X1_11 : Cond.fieldLink RX1 11 "KissGates$Crossing" "behind" "[I" ∈ kg_T := kg_inT 239 (by decide +kernel) rfl
theorem lkF_X1_21 : Cond.fieldLink RX1 21 "KissGates$Crossing" "found" "Z" ∈ kg_T := kg_inT 240 (by decide +kernel) rfl
theorem lkK_X7_66 : Cond.classLink RX7 66 RX0 ∈ kg_T := kg_inT 246 (by decide +kernel) rfl
theorem lkN_X7_68 : (RX7, 68, yX0_init, "KissGates") ∈ kg_nest := by simp [kg_nest]
theorem lkM_X0_3 : Cond.methodLink RX0 3 Lib.objectInit ∈ kg_T := kg_inT 251 (by decide +kernel) rfl
theorem lkF_X0_21 : Cond.fieldLink RX0 21 "KissGates$Common" "gates" "I" ∈ kg_T := kg_inT 252 (by decide +kernel) rfl
theorem lkF_X5_63 : Cond.fieldLink RX5 63 "KissGates$Common" "gates" "I" ∈ kg_T := kg_inT 253 (by decide +kernel) rfl
theorem lkF_X7_113 : Cond.fieldLink RX7 113 "KissGates$Common" "gates" "I" ∈ kg_T := kg_inT 254 (by decide +kernel) rfl
theorem lkF_X6_54 : Cond.fieldLink RX6 54 "KissGates$Common" "gates" "I" ∈ kg_T := kg_inT 255 (by decide +kernel) rfl
theorem lkF_X0_25 : Cond.fieldLink RX0 25 "KissGates$Common" "persons" "I" ∈ kg_T := kg_inT 256 (by decide +kernel) rfl
theorem lkF_X3_41 : Cond.fieldLink RX3 41 "KissGates$Common" "persons" "I" ∈ kg_T := kg_inT 257 (by decide +kernel) rfl
theorem lkF_X7_110 : Cond.fieldLink RX7 110 "KissGates$Common" "persons" "I" ∈ kg_T := kg_inT 258 (by decide +kernel) rfl
theorem lkF_X1_33 : Cond.fieldLink RX1 33 "KissGates$Common" "persons" "I" ∈ kg_T := kg_inT 259 (by decide +kernel) rfl
theorem lkF_X5_70 : Cond.fieldLink RX5 70 "KissGates$Common" "persons" "I" ∈ kg_T := kg_inT 260 (by decide +kernel) rfl
theorem lkF_X6_69 : Cond.fieldLink RX6 69 "KissGates$Common" "persons" "I" ∈ kg_T := kg_inT 261 (by decide +kernel) rfl
theorem lkF_X0_28 : Cond.fieldLink RX0 28 "KissGates$Common" "insideAtFirst" "I" ∈ kg_T := kg_inT 262 (by decide +kernel) rfl
theorem lkF_X5_31 : Cond.fieldLink RX5 31 "KissGates$Common" "insideAtFirst" "I" ∈ kg_T := kg_inT 263 (by decide +kernel) rfl
theorem lkF_X0_31 : Cond.fieldLink RX0 31 "KissGates$Common" "coldsAtFirst" "I" ∈ kg_T := kg_inT 264 (by decide +kernel) rfl
theorem lkF_X5_39 : Cond.fieldLink RX5 39 "KissGates$Common" "coldsAtFirst" "I" ∈ kg_T := kg_inT 265 (by decide +kernel) rfl
theorem lkF_X0_9 : Cond.fieldLink RX0 9 "KissGates$Common" "rust" "[I" ∈ kg_T := kg_inT 266 (by decide +kernel) rfl
theorem lkF_X5_60 : Cond.fieldLink RX5 60 "KissGates$Common" "rust" "[I" ∈ kg_T := kg_inT 267 (by decide +kernel) rfl
theorem lkF_X7_154 : Cond.fieldLink RX7 154 "KissGates$Common" "rust" "[I" ∈ kg_T := kg_inT 268 (by decide +kernel) rfl
theorem lkF_X0_15 : Cond.fieldLink RX0 15 "KissGates$Common" "told" "[I" ∈ kg_T := kg_inT 269 (by decide +kernel) rfl
theorem lkF_X0_18 : Cond.fieldLink RX0 18 "KissGates$Common" "fond" "[I" ∈ kg_T := kg_inT 270 (by decide +kernel) rfl
theorem lkM_X7_76 : Cond.methodLink RX7 76 yX0_empty ∈ kg_T := kg_inT 287 (by decide +kernel) rfl
theorem lkM_X0_34 : Cond.methodLink RX0 34 yJ7_fill_53178 ∈ kg_T := kg_inT 291 (by decide +kernel) rfl
theorem lkM_X7_79 : Cond.methodLink RX7 79 yX5_begin ∈ kg_T := kg_inT 294 (by decide +kernel) rfl
theorem lkM_X5_48 : Cond.methodLink RX5 48 yJ7_fill_53178 ∈ kg_T := kg_inT 298 (by decide +kernel) rfl
theorem lkF_X7_10 : Cond.fieldLink RX7 10 "KissGates" "text" "LKissGates$Text;" ∈ kg_T := kg_inT 299 (by decide +kernel) rfl
theorem lkF_X7_19 : Cond.fieldLink RX7 19 "KissGates" "state" "LKissGates$State;" ∈ kg_T := kg_inT 300 (by decide +kernel) rfl
theorem lkF_X7_26 : Cond.fieldLink RX7 26 "KissGates" "past" "LKissGates$Past;" ∈ kg_T := kg_inT 301 (by decide +kernel) rfl
theorem lkF_X7_33 : Cond.fieldLink RX7 33 "KissGates" "notes" "LKissGates$Notes;" ∈ kg_T := kg_inT 302 (by decide +kernel) rfl
theorem lkF_X7_40 : Cond.fieldLink RX7 40 "KissGates" "pairing" "LKissGates$Pairing;" ∈ kg_T := kg_inT 303 (by decide +kernel) rfl
theorem lkF_X7_47 : Cond.fieldLink RX7 47 "KissGates" "crossing" "LKissGates$Crossing;" ∈ kg_T := kg_inT 304 (by decide +kernel) rfl
theorem lkF_X7_51 : Cond.fieldLink RX7 51 "KissGates" "images" "[LKissGates$State;" ∈ kg_T := kg_inT 305 (by decide +kernel) rfl
theorem lkF_X7_55 : Cond.fieldLink RX7 55 "KissGates" "kept" "[Z" ∈ kg_T := kg_inT 306 (by decide +kernel) rfl
theorem lkF_X7_59 : Cond.fieldLink RX7 59 "KissGates" "keptSeeds" "[I" ∈ kg_T := kg_inT 307 (by decide +kernel) rfl
theorem lkF_X7_63 : Cond.fieldLink RX7 63 "KissGates" "madeIll" "[I" ∈ kg_T := kg_inT 308 (by decide +kernel) rfl
theorem lkF_X7_69 : Cond.fieldLink RX7 69 "KissGates" "land" "LKissGates$Common;" ∈ kg_T := kg_inT 309 (by decide +kernel) rfl
theorem lkF_X7_73 : Cond.fieldLink RX7 73 "KissGates" "spare" "LKissGates$Common;" ∈ kg_T := kg_inT 310 (by decide +kernel) rfl
theorem lkF_X7_83 : Cond.fieldLink RX7 83 "KissGates" "lastFault" "I" ∈ kg_T := kg_inT 311 (by decide +kernel) rfl
theorem lkF_X7_87 : Cond.fieldLink RX7 87 "KissGates" "drawn" "I" ∈ kg_T := kg_inT 312 (by decide +kernel) rfl
theorem lkM_L_13 : Cond.methodLink RL 13 yX7_feed ∈ kg_T := kg_inT 342 (by decide +kernel) rfl
theorem lkC_X7_90 : Cond.constant RX7 90 (-1000000002) ∈ kg_T := kg_inT 346 (by decide +kernel) rfl
theorem lkC_X7_94 : Cond.constant RX7 94 (-1000000004) ∈ kg_T := kg_inT 347 (by decide +kernel) rfl
theorem lkM_X7_95 : Cond.methodLink RX7 95 yX6_append ∈ kg_T := kg_inT 348 (by decide +kernel) rfl
theorem lkM_L_18 : Cond.methodLink RL 18 yX7_common ∈ kg_T := kg_inT 352 (by decide +kernel) rfl
theorem lkM_X7_99 : Cond.methodLink RX7 99 yX6_readInto ∈ kg_T := kg_inT 356 (by decide +kernel) rfl
theorem lkM_X6_28 : Cond.methodLink RX6 28 yX0_empty ∈ kg_T := kg_inT 360 (by decide +kernel) rfl
theorem lkM_X6_33 : Cond.methodLink RX6 33 yX6_skipBlanks ∈ kg_T := kg_inT 361 (by decide +kernel) rfl
theorem lkM_X6_36 : Cond.methodLink RX6 36 yX6_readClause ∈ kg_T := kg_inT 365 (by decide +kernel) rfl
theorem lkM_X6_40 : Cond.methodLink RX6 40 yX6_readGate ∈ kg_T := kg_inT 369 (by decide +kernel) rfl
theorem lkM_X6_50 : Cond.methodLink RX6 50 yX6_blame ∈ kg_T := kg_inT 373 (by decide +kernel) rfl
theorem lkM_X6_57 : Cond.methodLink RX6 57 yX6_readNumber ∈ kg_T := kg_inT 377 (by decide +kernel) rfl
theorem lkM_X6_61 : Cond.methodLink RX6 61 yX6_readEnd ∈ kg_T := kg_inT 381 (by decide +kernel) rfl
theorem lkM_X6_65 : Cond.methodLink RX6 65 yX0_addGate ∈ kg_T := kg_inT 385 (by decide +kernel) rfl
theorem lkM_X6_44 : Cond.methodLink RX6 44 yX6_readPerson ∈ kg_T := kg_inT 389 (by decide +kernel) rfl
theorem lkM_X6_72 : Cond.methodLink RX6 72 yX0_addPerson ∈ kg_T := kg_inT 393 (by decide +kernel) rfl
theorem lkM_X6_47 : Cond.methodLink RX6 47 yX6_readLiking ∈ kg_T := kg_inT 397 (by decide +kernel) rfl
theorem lkM_X6_75 : Cond.methodLink RX6 75 yX0_isTold ∈ kg_T := kg_inT 401 (by decide +kernel) rfl
theorem lkM_X0_40 : Cond.methodLink RX0 40 yX0_hasPerson ∈ kg_T := kg_inT 405 (by decide +kernel) rfl
theorem lkM_X6_82 : Cond.methodLink RX6 82 yX0_addLiking ∈ kg_T := kg_inT 409 (by decide +kernel) rfl
theorem lkM_X0_44 : Cond.methodLink RX0 44 yX0_liking ∈ kg_T := kg_inT 413 (by decide +kernel) rfl
theorem lkM_X0_48 : Cond.methodLink RX0 48 yX0_isTold ∈ kg_T := kg_inT 417 (by decide +kernel) rfl
theorem lkM_X7_106 : Cond.methodLink RX7 106 yX4_forget ∈ kg_T := kg_inT 418 (by decide +kernel) rfl
theorem lkM_X7_109 : Cond.methodLink RX7 109 yX2_forget ∈ kg_T := kg_inT 422 (by decide +kernel) rfl
theorem lkM_L_23 : Cond.methodLink RL 23 yX7_fault ∈ kg_T := kg_inT 426 (by decide +kernel) rfl
theorem lkM_L_27 : Cond.methodLink RL 27 yX7_told ∈ kg_T := kg_inT 430 (by decide +kernel) rfl
theorem lkM_X7_131 : Cond.methodLink RX7 131 yX5_waiting ∈ kg_T := kg_inT 434 (by decide +kernel) rfl
theorem lkM_X7_134 : Cond.methodLink RX7 134 yX5_rusted ∈ kg_T := kg_inT 438 (by decide +kernel) rfl
theorem lkM_X5_66 : Cond.methodLink RX5 66 yX5_isRusted ∈ kg_T := kg_inT 442 (by decide +kernel) rfl
theorem lkM_L_31 : Cond.methodLink RL 31 yX7_gate ∈ kg_T := kg_inT 446 (by decide +kernel) rfl
theorem lkM_X7_149 : Cond.methodLink RX7 149 yX0_hasGate ∈ kg_T := kg_inT 450 (by decide +kernel) rfl
theorem lkC_X7_153 : Cond.constant RX7 153 (-1000000001) ∈ kg_T := kg_inT 454 (by decide +kernel) rfl
theorem lkM_X7_160 : Cond.methodLink RX7 160 yX5_isRusted ∈ kg_T := kg_inT 455 (by decide +kernel) rfl
theorem lkM_X7_164 : Cond.methodLink RX7 164 yX5_waitingAt ∈ kg_T := kg_inT 456 (by decide +kernel) rfl
theorem lkM_L_36 : Cond.methodLink RL 36 yX7_person ∈ kg_T := kg_inT 460 (by decide +kernel) rfl
theorem lkM_X7_168 : Cond.methodLink RX7 168 yX0_hasPerson ∈ kg_T := kg_inT 464 (by decide +kernel) rfl
theorem lkM_X7_174 : Cond.methodLink RX7 174 yX0_wouldMeet ∈ kg_T := kg_inT 465 (by decide +kernel) rfl
theorem lkM_L_40 : Cond.methodLink RL 40 yX7_likes ∈ kg_T := kg_inT 469 (by decide +kernel) rfl
theorem lkM_X7_178 : Cond.methodLink RX7 178 yX0_liking ∈ kg_T := kg_inT 473 (by decide +kernel) rfl
theorem lkM_L_44 : Cond.methodLink RL 44 yX7_logged ∈ kg_T := kg_inT 474 (by decide +kernel) rfl
theorem lkM_L_48 : Cond.methodLink RL 48 yX7_hour ∈ kg_T := kg_inT 478 (by decide +kernel) rfl
theorem lkM_X7_184 : Cond.methodLink RX7 184 yX7_refusalOfHours ∈ kg_T := kg_inT 482 (by decide +kernel) rfl
theorem lkC_X7_194 : Cond.constant RX7 194 (-1000000003) ∈ kg_T := kg_inT 486 (by decide +kernel) rfl
theorem lkM_X7_187 : Cond.methodLink RX7 187 yX4_remember ∈ kg_T := kg_inT 487 (by decide +kernel) rfl
theorem lkM_X4_22 : Cond.methodLink RX4 22 yX5_copyFrom ∈ kg_T := kg_inT 491 (by decide +kernel) rfl
theorem lkM_X5_54 : Cond.methodLink RX5 54 arraycopyName ∈ kg_T := kg_inT 495 (by decide +kernel) rfl
theorem lkM_X4_29 : Cond.methodLink RX4 29 yJ9_min_7cf53 ∈ kg_T := kg_inT 498 (by decide +kernel) rfl
theorem lkM_X7_191 : Cond.methodLink RX7 191 yX5_passHour ∈ kg_T := kg_inT 501 (by decide +kernel) rfl
theorem lkM_X5_73 : Cond.methodLink RX5 73 yX5_meetAt ∈ kg_T := kg_inT 505 (by decide +kernel) rfl
theorem lkM_X5_76 : Cond.methodLink RX5 76 yX5_waitingAt ∈ kg_T := kg_inT 509 (by decide +kernel) rfl
theorem lkM_X5_80 : Cond.methodLink RX5 80 yX0_wouldMeet ∈ kg_T := kg_inT 510 (by decide +kernel) rfl
theorem lkM_X5_84 : Cond.methodLink RX5 84 yX0_together ∈ kg_T := kg_inT 511 (by decide +kernel) rfl
theorem lkM_X5_87 : Cond.methodLink RX5 87 yX5_meet ∈ kg_T := kg_inT 515 (by decide +kernel) rfl
theorem lkM_L_52 : Cond.methodLink RL 52 yX7_come ∈ kg_T := kg_inT 519 (by decide +kernel) rfl
theorem lkM_L_56 : Cond.methodLink RL 56 yX7_goOff ∈ kg_T := kg_inT 523 (by decide +kernel) rfl
theorem lkM_L_60 : Cond.methodLink RL 60 yX7_hole ∈ kg_T := kg_inT 527 (by decide +kernel) rfl
theorem lkM_L_64 : Cond.methodLink RL 64 yX7_oil ∈ kg_T := kg_inT 531 (by decide +kernel) rfl
theorem lkM_L_68 : Cond.methodLink RL 68 yX7_well ∈ kg_T := kg_inT 535 (by decide +kernel) rfl
theorem lkM_L_72 : Cond.methodLink RL 72 yX7_drift ∈ kg_T := kg_inT 539 (by decide +kernel) rfl
theorem lkM_X7_195 : Cond.methodLink RX7 195 yX7_comeByDraw ∈ kg_T := kg_inT 543 (by decide +kernel) rfl
theorem lkM_X7_201 : Cond.methodLink RX7 201 yX7_draw ∈ kg_T := kg_inT 547 (by decide +kernel) rfl
theorem lkC_X7_204 : Cond.constant RX7 204 (1103515245) ∈ kg_T := kg_inT 551 (by decide +kernel) rfl
theorem lkC_X7_205 : Cond.constant RX7 205 (2147483647) ∈ kg_T := kg_inT 552 (by decide +kernel) rfl
theorem lkC_X7_206 : Cond.constant RX7 206 (65536) ∈ kg_T := kg_inT 553 (by decide +kernel) rfl
theorem lkM_L_76 : Cond.methodLink RL 76 yX7_undo ∈ kg_T := kg_inT 554 (by decide +kernel) rfl
theorem lkM_X7_198 : Cond.methodLink RX7 198 yX4_restore ∈ kg_T := kg_inT 558 (by decide +kernel) rfl
theorem lkM_L_80 : Cond.methodLink RL 80 yX7_atOnce ∈ kg_T := kg_inT 562 (by decide +kernel) rfl
theorem lkM_X7_207 : Cond.methodLink RX7 207 yX7_openGates ∈ kg_T := kg_inT 566 (by decide +kernel) rfl
theorem lkM_X7_243 : Cond.methodLink RX7 243 yJ6_bitCount_0f7a4 ∈ kg_T := kg_inT 570 (by decide +kernel) rfl
theorem lkC_J6_265 : Cond.constant RJ6 265 (1431655765) ∈ kg_T := kg_inT 573 (by decide +kernel) rfl
theorem lkC_J6_266 : Cond.constant RJ6 266 (858993459) ∈ kg_T := kg_inT 574 (by decide +kernel) rfl
theorem lkC_J6_267 : Cond.constant RJ6 267 (252645135) ∈ kg_T := kg_inT 575 (by decide +kernel) rfl
theorem lkM_X7_211 : Cond.methodLink RX7 211 yX3_find ∈ kg_T := kg_inT 576 (by decide +kernel) rfl
theorem lkM_X3_31 : Cond.methodLink RX3 31 yJ7_fill_53178 ∈ kg_T := kg_inT 580 (by decide +kernel) rfl
theorem lkM_X3_37 : Cond.methodLink RX3 37 yX3_pairFrom ∈ kg_T := kg_inT 581 (by decide +kernel) rfl
theorem lkM_X3_46 : Cond.methodLink RX3 46 yX3_takeIfBetter ∈ kg_T := kg_inT 585 (by decide +kernel) rfl
theorem lkM_X3_57 : Cond.methodLink RX3 57 arraycopyName ∈ kg_T := kg_inT 589 (by decide +kernel) rfl
theorem lkM_X3_50 : Cond.methodLink RX3 50 yX0_wouldMeet ∈ kg_T := kg_inT 590 (by decide +kernel) rfl
theorem lkM_X3_54 : Cond.methodLink RX3 54 yX0_together ∈ kg_T := kg_inT 591 (by decide +kernel) rfl
theorem lkM_L_84 : Cond.methodLink RL 84 yX7_sides ∈ kg_T := kg_inT 592 (by decide +kernel) rfl
theorem lkM_X7_223 : Cond.methodLink RX7 223 yX0_hasAll ∈ kg_T := kg_inT 596 (by decide +kernel) rfl
theorem lkM_X7_226 : Cond.methodLink RX7 226 yX1_fewestHours ∈ kg_T := kg_inT 600 (by decide +kernel) rfl
theorem lkM_X1_15 : Cond.methodLink RX1 15 yJ7_fill_53178 ∈ kg_T := kg_inT 604 (by decide +kernel) rfl
theorem lkM_X1_25 : Cond.methodLink RX1 25 yX1_isThere ∈ kg_T := kg_inT 605 (by decide +kernel) rfl
theorem lkM_X1_29 : Cond.methodLink RX1 29 yX1_cross ∈ kg_T := kg_inT 609 (by decide +kernel) rfl
theorem lkM_X1_39 : Cond.methodLink RX1 39 yX1_reach ∈ kg_T := kg_inT 613 (by decide +kernel) rfl
theorem lkM_X1_43 : Cond.methodLink RX1 43 yX0_wouldMeet ∈ kg_T := kg_inT 617 (by decide +kernel) rfl
theorem lkM_L_88 : Cond.methodLink RL 88 yX7_steady ∈ kg_T := kg_inT 618 (by decide +kernel) rfl
theorem lkM_X7_230 : Cond.methodLink RX7 230 yX7_wouldRather ∈ kg_T := kg_inT 622 (by decide +kernel) rfl
theorem lkM_L_92 : Cond.methodLink RL 92 yX7_loves ∈ kg_T := kg_inT 626 (by decide +kernel) rfl
theorem lkM_X7_234 : Cond.methodLink RX7 234 yX0_likesBest ∈ kg_T := kg_inT 630 (by decide +kernel) rfl
theorem lkM_L_96 : Cond.methodLink RL 96 yX7_first ∈ kg_T := kg_inT 634 (by decide +kernel) rfl
theorem lkM_X7_237 : Cond.methodLink RX7 237 yX5_madeIllBy ∈ kg_T := kg_inT 638 (by decide +kernel) rfl
theorem lkM_L_100 : Cond.methodLink RL 100 yX7_dies ∈ kg_T := kg_inT 642 (by decide +kernel) rfl
theorem lkM_L_104 : Cond.methodLink RL 104 yX7_oilFor ∈ kg_T := kg_inT 646 (by decide +kernel) rfl
theorem lkM_X7_240 : Cond.methodLink RX7 240 yX7_oilings ∈ kg_T := kg_inT 650 (by decide +kernel) rfl
theorem lkM_L_108 : Cond.methodLink RL 108 yX7_evening ∈ kg_T := kg_inT 654 (by decide +kernel) rfl
theorem lkM_X7_248 : Cond.methodLink RX7 248 yJ9_max_7cf53 ∈ kg_T := kg_inT 658 (by decide +kernel) rfl
theorem lkM_L_112 : Cond.methodLink RL 112 yX7_dry ∈ kg_T := kg_inT 661 (by decide +kernel) rfl
theorem lkD_X7_253 : Cond.constantLong RX7 253 (1000000000) ∈ kg_T := kg_inT 665 (by decide +kernel) rfl
theorem lkD_X7_255 : Cond.constantLong RX7 255 (100) ∈ kg_T := kg_inT 666 (by decide +kernel) rfl
theorem lkM_L_116 : Cond.methodLink RL 116 yX7_ill ∈ kg_T := kg_inT 667 (by decide +kernel) rfl
theorem lkM_X7_257 : Cond.methodLink RX7 257 yX2_learn ∈ kg_T := kg_inT 671 (by decide +kernel) rfl
theorem lkM_L_121 : Cond.methodLink RL 121 yX7_mayBe ∈ kg_T := kg_inT 675 (by decide +kernel) rfl
theorem lkM_X7_261 : Cond.methodLink RX7 261 yX2_allows ∈ kg_T := kg_inT 679 (by decide +kernel) rfl
theorem lkM_L_125 : Cond.methodLink RL 125 yX7_ask ∈ kg_T := kg_inT 683 (by decide +kernel) rfl
theorem lkM_X7_264 : Cond.methodLink RX7 264 yX7_mayBe ∈ kg_T := kg_inT 687 (by decide +kernel) rfl
theorem lkM_X7_267 : Cond.methodLink RX7 267 yX7_greatestPart ∈ kg_T := kg_inT 688 (by decide +kernel) rfl
theorem lkM_L_129 : Cond.methodLink RL 129 yX7_write ∈ kg_T := kg_inT 692 (by decide +kernel) rfl
theorem lkM_X7_270 : Cond.methodLink RX7 270 yX2_enter ∈ kg_T := kg_inT 696 (by decide +kernel) rfl
theorem lkM_L_133 : Cond.methodLink RL 133 yX7_tear ∈ kg_T := kg_inT 700 (by decide +kernel) rfl
theorem lkM_L_137 : Cond.methodLink RL 137 yX7_judge ∈ kg_T := kg_inT 704 (by decide +kernel) rfl
theorem lkM_X7_273 : Cond.methodLink RX7 273 yX2_firstWrong ∈ kg_T := kg_inT 708 (by decide +kernel) rfl
theorem lkM_L_141 : Cond.methodLink RL 141 yX7_seed ∈ kg_T := kg_inT 712 (by decide +kernel) rfl
theorem lkM_L_145 : Cond.methodLink RL 145 yX7_keep ∈ kg_T := kg_inT 716 (by decide +kernel) rfl
theorem lkM_X7_276 : Cond.methodLink RX7 276 yX5_copyFrom ∈ kg_T := kg_inT 720 (by decide +kernel) rfl
theorem lkM_L_149 : Cond.methodLink RL 149 yX7_goBack ∈ kg_T := kg_inT 721 (by decide +kernel) rfl
theorem lkK_L_10 : Cond.classLink RL 10 RX8 ∈ kg_T := kg_inT 725 (by decide +kernel) rfl
theorem lkM_L_12 : Cond.methodLink RL 12 yX8_init ∈ kg_T := kg_inT 727 (by decide +kernel) rfl
theorem lkM_X8_1 : Cond.methodLink RX8 1 Lib.objectInit ∈ kg_T := kg_inT 730 (by decide +kernel) rfl
theorem lkF_X8_87 : Cond.fieldLink RX8 87 "KissGatesModel" "gates" "I" ∈ kg_T := kg_inT 731 (by decide +kernel) rfl
theorem lkF_X8_7 : Cond.fieldLink RX8 7 "KissGatesModel" "bears" "[I" ∈ kg_T := kg_inT 732 (by decide +kernel) rfl
theorem lkF_X8_94 : Cond.fieldLink RX8 94 "KissGatesModel" "persons" "I" ∈ kg_T := kg_inT 733 (by decide +kernel) rfl
theorem lkF_X8_13 : Cond.fieldLink RX8 13 "KissGatesModel" "likes" "[I" ∈ kg_T := kg_inT 734 (by decide +kernel) rfl
theorem lkF_X8_16 : Cond.fieldLink RX8 16 "KissGatesModel" "now" "[I" ∈ kg_T := kg_inT 735 (by decide +kernel) rfl
theorem lkF_X8_222 : Cond.fieldLink RX8 222 "KissGatesModel" "seed" "I" ∈ kg_T := kg_inT 736 (by decide +kernel) rfl
theorem lkF_X8_19 : Cond.fieldLink RX8 19 "KissGatesModel" "one" "[I" ∈ kg_T := kg_inT 737 (by decide +kernel) rfl
theorem lkF_X8_22 : Cond.fieldLink RX8 22 "KissGatesModel" "other" "[I" ∈ kg_T := kg_inT 738 (by decide +kernel) rfl
theorem lkF_X8_25 : Cond.fieldLink RX8 25 "KissGatesModel" "text" "[I" ∈ kg_T := kg_inT 739 (by decide +kernel) rfl
theorem lkF_X8_100 : Cond.fieldLink RX8 100 "KissGatesModel" "texted" "I" ∈ kg_T := kg_inT 740 (by decide +kernel) rfl
theorem lkF_X8_28 : Cond.fieldLink RX8 28 "KissGatesModel" "faultPlace" "I" ∈ kg_T := kg_inT 741 (by decide +kernel) rfl
theorem lkF_X8_104 : Cond.fieldLink RX8 104 "KissGatesModel" "at0" "I" ∈ kg_T := kg_inT 742 (by decide +kernel) rfl
theorem lkF_X8_122 : Cond.fieldLink RX8 122 "KissGatesModel" "number" "I" ∈ kg_T := kg_inT 743 (by decide +kernel) rfl
theorem lkF_X8_119 : Cond.fieldLink RX8 119 "KissGatesModel" "numberAt" "I" ∈ kg_T := kg_inT 744 (by decide +kernel) rfl
theorem lkF_X8_128 : Cond.fieldLink RX8 128 "KissGatesModel" "readGates" "I" ∈ kg_T := kg_inT 745 (by decide +kernel) rfl
theorem lkF_X8_32 : Cond.fieldLink RX8 32 "KissGatesModel" "readBears" "[I" ∈ kg_T := kg_inT 746 (by decide +kernel) rfl
theorem lkF_X8_135 : Cond.fieldLink RX8 135 "KissGatesModel" "readPersons" "I" ∈ kg_T := kg_inT 747 (by decide +kernel) rfl
theorem lkF_X8_35 : Cond.fieldLink RX8 35 "KissGatesModel" "readSides" "[I" ∈ kg_T := kg_inT 748 (by decide +kernel) rfl
theorem lkF_X8_38 : Cond.fieldLink RX8 38 "KissGatesModel" "readColds" "[I" ∈ kg_T := kg_inT 749 (by decide +kernel) rfl
theorem lkF_X8_41 : Cond.fieldLink RX8 41 "KissGatesModel" "readLikes" "[I" ∈ kg_T := kg_inT 750 (by decide +kernel) rfl
theorem lkF_X8_159 : Cond.fieldLink RX8 159 "KissGatesModel" "undos" "I" ∈ kg_T := kg_inT 751 (by decide +kernel) rfl
theorem lkF_X8_44 : Cond.fieldLink RX8 44 "KissGatesModel" "past" "[I" ∈ kg_T := kg_inT 752 (by decide +kernel) rfl
theorem lkF_X8_47 : Cond.fieldLink RX8 47 "KissGatesModel" "chosen" "[I" ∈ kg_T := kg_inT 753 (by decide +kernel) rfl
theorem lkF_X8_50 : Cond.fieldLink RX8 50 "KissGatesModel" "with" "[I" ∈ kg_T := kg_inT 754 (by decide +kernel) rfl
theorem lkF_X8_53 : Cond.fieldLink RX8 53 "KissGatesModel" "bestWith" "[I" ∈ kg_T := kg_inT 755 (by decide +kernel) rfl
theorem lkF_X8_244 : Cond.fieldLink RX8 244 "KissGatesModel" "bestMany" "I" ∈ kg_T := kg_inT 756 (by decide +kernel) rfl
theorem lkF_X8_247 : Cond.fieldLink RX8 247 "KissGatesModel" "bestMuch" "I" ∈ kg_T := kg_inT 757 (by decide +kernel) rfl
theorem lkF_X8_56 : Cond.fieldLink RX8 56 "KissGatesModel" "masks" "[I" ∈ kg_T := kg_inT 758 (by decide +kernel) rfl
theorem lkF_X8_59 : Cond.fieldLink RX8 59 "KissGatesModel" "codes" "[I" ∈ kg_T := kg_inT 759 (by decide +kernel) rfl
theorem lkF_X8_266 : Cond.fieldLink RX8 266 "KissGatesModel" "masked" "I" ∈ kg_T := kg_inT 760 (by decide +kernel) rfl
theorem lkF_X8_62 : Cond.fieldLink RX8 62 "KissGatesModel" "can" "[Z" ∈ kg_T := kg_inT 761 (by decide +kernel) rfl
theorem lkF_X8_66 : Cond.fieldLink RX8 66 "KissGatesModel" "next" "[Z" ∈ kg_T := kg_inT 762 (by decide +kernel) rfl
theorem lkF_X8_153 : Cond.fieldLink RX8 153 "KissGatesModel" "known" "I" ∈ kg_T := kg_inT 763 (by decide +kernel) rfl
theorem lkF_X8_69 : Cond.fieldLink RX8 69 "KissGatesModel" "knownWho" "[I" ∈ kg_T := kg_inT 764 (by decide +kernel) rfl
theorem lkF_X8_72 : Cond.fieldLink RX8 72 "KissGatesModel" "knownIs" "[Z" ∈ kg_T := kg_inT 765 (by decide +kernel) rfl
theorem lkF_X8_156 : Cond.fieldLink RX8 156 "KissGatesModel" "booked" "I" ∈ kg_T := kg_inT 766 (by decide +kernel) rfl
theorem lkF_X8_75 : Cond.fieldLink RX8 75 "KissGatesModel" "bookOf" "[I" ∈ kg_T := kg_inT 767 (by decide +kernel) rfl
theorem lkF_X8_78 : Cond.fieldLink RX8 78 "KissGatesModel" "bookIs" "[I" ∈ kg_T := kg_inT 768 (by decide +kernel) rfl
theorem lkF_X8_81 : Cond.fieldLink RX8 81 "KissGatesModel" "images" "[I" ∈ kg_T := kg_inT 769 (by decide +kernel) rfl
theorem lkF_X8_84 : Cond.fieldLink RX8 84 "KissGatesModel" "isKept" "[Z" ∈ kg_T := kg_inT 770 (by decide +kernel) rfl
theorem lkM_L_17 : Cond.methodLink RL 17 yX8_feed ∈ kg_T := kg_inT 852 (by decide +kernel) rfl
theorem lkD_X8_97 : Cond.constantLong RX8 97 (255) ∈ kg_T := kg_inT 856 (by decide +kernel) rfl
theorem lkM_X8_90 : Cond.methodLink RX8 90 yX8_in ∈ kg_T := kg_inT 857 (by decide +kernel) rfl
theorem lkC_X8_99 : Cond.constant RX8 99 (-1000000002) ∈ kg_T := kg_inT 860 (by decide +kernel) rfl
theorem lkC_X8_103 : Cond.constant RX8 103 (-1000000004) ∈ kg_T := kg_inT 861 (by decide +kernel) rfl
theorem lkM_L_22 : Cond.methodLink RL 22 yX8_common ∈ kg_T := kg_inT 862 (by decide +kernel) rfl
theorem lkM_X8_107 : Cond.methodLink RX8 107 yX8_here ∈ kg_T := kg_inT 866 (by decide +kernel) rfl
theorem lkM_X8_147 : Cond.methodLink RX8 147 yX8_takeClause ∈ kg_T := kg_inT 870 (by decide +kernel) rfl
theorem lkM_X8_115 : Cond.methodLink RX8 115 yX8_fails ∈ kg_T := kg_inT 874 (by decide +kernel) rfl
theorem lkM_X8_138 : Cond.methodLink RX8 138 yX8_takeGate ∈ kg_T := kg_inT 878 (by decide +kernel) rfl
theorem lkM_X8_131 : Cond.methodLink RX8 131 yX8_into ∈ kg_T := kg_inT 882 (by decide +kernel) rfl
theorem lkM_X8_125 : Cond.methodLink RX8 125 yX8_takeNumber ∈ kg_T := kg_inT 886 (by decide +kernel) rfl
theorem lkD_X8_111 : Cond.constantLong RX8 111 (48) ∈ kg_T := kg_inT 890 (by decide +kernel) rfl
theorem lkD_X8_113 : Cond.constantLong RX8 113 (57) ∈ kg_T := kg_inT 891 (by decide +kernel) rfl
theorem lkM_X8_141 : Cond.methodLink RX8 141 yX8_takePerson ∈ kg_T := kg_inT 892 (by decide +kernel) rfl
theorem lkM_X8_144 : Cond.methodLink RX8 144 yX8_takeLikes ∈ kg_T := kg_inT 896 (by decide +kernel) rfl
theorem lkM_X8_150 : Cond.methodLink RX8 150 yX8_takeRead ∈ kg_T := kg_inT 900 (by decide +kernel) rfl
theorem lkM_L_26 : Cond.methodLink RL 26 yX8_fault ∈ kg_T := kg_inT 904 (by decide +kernel) rfl
theorem lkM_L_30 : Cond.methodLink RL 30 yX8_told ∈ kg_T := kg_inT 908 (by decide +kernel) rfl
theorem lkM_X8_169 : Cond.methodLink RX8 169 yX8_allWith ∈ kg_T := kg_inT 912 (by decide +kernel) rfl
theorem lkM_X8_173 : Cond.methodLink RX8 173 yX8_waiting ∈ kg_T := kg_inT 916 (by decide +kernel) rfl
theorem lkM_X8_176 : Cond.methodLink RX8 176 yX8_rusted ∈ kg_T := kg_inT 920 (by decide +kernel) rfl
theorem lkM_L_35 : Cond.methodLink RL 35 yX8_gate ∈ kg_T := kg_inT 924 (by decide +kernel) rfl
theorem lkM_X8_179 : Cond.methodLink RX8 179 yX8_isGate ∈ kg_T := kg_inT 928 (by decide +kernel) rfl
theorem lkC_X8_183 : Cond.constant RX8 183 (-1000000001) ∈ kg_T := kg_inT 932 (by decide +kernel) rfl
theorem lkM_X8_184 : Cond.methodLink RX8 184 yX8_waitingAt ∈ kg_T := kg_inT 933 (by decide +kernel) rfl
theorem lkM_L_39 : Cond.methodLink RL 39 yX8_person ∈ kg_T := kg_inT 937 (by decide +kernel) rfl
theorem lkM_X8_187 : Cond.methodLink RX8 187 yX8_isPerson ∈ kg_T := kg_inT 941 (by decide +kernel) rfl
theorem lkM_X8_190 : Cond.methodLink RX8 190 yX8_whomWould ∈ kg_T := kg_inT 945 (by decide +kernel) rfl
theorem lkM_X8_166 : Cond.methodLink RX8 166 yX8_would ∈ kg_T := kg_inT 949 (by decide +kernel) rfl
theorem lkM_X8_162 : Cond.methodLink RX8 162 yX8_like ∈ kg_T := kg_inT 953 (by decide +kernel) rfl
theorem lkM_L_43 : Cond.methodLink RL 43 yX8_likes ∈ kg_T := kg_inT 957 (by decide +kernel) rfl
theorem lkM_L_47 : Cond.methodLink RL 47 yX8_logged ∈ kg_T := kg_inT 961 (by decide +kernel) rfl
theorem lkM_L_51 : Cond.methodLink RL 51 yX8_hour ∈ kg_T := kg_inT 965 (by decide +kernel) rfl
theorem lkM_X8_210 : Cond.methodLink RX8 210 yX8_hoursRefused ∈ kg_T := kg_inT 969 (by decide +kernel) rfl
theorem lkD_X8_207 : Cond.constantLong RX8 207 (60) ∈ kg_T := kg_inT 973 (by decide +kernel) rfl
theorem lkC_X8_209 : Cond.constant RX8 209 (-1000000003) ∈ kg_T := kg_inT 974 (by decide +kernel) rfl
theorem lkM_X8_213 : Cond.methodLink RX8 213 yX8_remember ∈ kg_T := kg_inT 975 (by decide +kernel) rfl
theorem lkM_X8_216 : Cond.methodLink RX8 216 yX8_pass ∈ kg_T := kg_inT 979 (by decide +kernel) rfl
theorem lkM_X8_200 : Cond.methodLink RX8 200 yX8_pairAt ∈ kg_T := kg_inT 983 (by decide +kernel) rfl
theorem lkM_X8_197 : Cond.methodLink RX8 197 yX8_both ∈ kg_T := kg_inT 987 (by decide +kernel) rfl
theorem lkM_X8_203 : Cond.methodLink RX8 203 yX8_meet ∈ kg_T := kg_inT 991 (by decide +kernel) rfl
theorem lkM_X8_193 : Cond.methodLink RX8 193 yX8_log ∈ kg_T := kg_inT 995 (by decide +kernel) rfl
theorem lkM_L_55 : Cond.methodLink RL 55 yX8_come ∈ kg_T := kg_inT 999 (by decide +kernel) rfl
theorem lkM_X8_219 : Cond.methodLink RX8 219 yX8_canCome ∈ kg_T := kg_inT 1003 (by decide +kernel) rfl
theorem lkM_L_59 : Cond.methodLink RL 59 yX8_goOff ∈ kg_T := kg_inT 1007 (by decide +kernel) rfl
theorem lkM_L_63 : Cond.methodLink RL 63 yX8_hole ∈ kg_T := kg_inT 1011 (by decide +kernel) rfl
theorem lkM_L_67 : Cond.methodLink RL 67 yX8_oil ∈ kg_T := kg_inT 1015 (by decide +kernel) rfl
theorem lkM_L_71 : Cond.methodLink RL 71 yX8_well ∈ kg_T := kg_inT 1019 (by decide +kernel) rfl
theorem lkM_L_75 : Cond.methodLink RL 75 yX8_drift ∈ kg_T := kg_inT 1023 (by decide +kernel) rfl
theorem lkM_X8_235 : Cond.methodLink RX8 235 yX8_chance ∈ kg_T := kg_inT 1027 (by decide +kernel) rfl
theorem lkM_X8_232 : Cond.methodLink RX8 232 yX8_draw ∈ kg_T := kg_inT 1031 (by decide +kernel) rfl
theorem lkD_X8_225 : Cond.constantLong RX8 225 (1103515245) ∈ kg_T := kg_inT 1035 (by decide +kernel) rfl
theorem lkD_X8_227 : Cond.constantLong RX8 227 (12345) ∈ kg_T := kg_inT 1036 (by decide +kernel) rfl
theorem lkD_X8_229 : Cond.constantLong RX8 229 (2147483648) ∈ kg_T := kg_inT 1037 (by decide +kernel) rfl
theorem lkC_X8_231 : Cond.constant RX8 231 (65536) ∈ kg_T := kg_inT 1038 (by decide +kernel) rfl
theorem lkM_L_79 : Cond.methodLink RL 79 yX8_undo ∈ kg_T := kg_inT 1039 (by decide +kernel) rfl
theorem lkM_L_83 : Cond.methodLink RL 83 yX8_atOnce ∈ kg_T := kg_inT 1043 (by decide +kernel) rfl
theorem lkM_X8_263 : Cond.methodLink RX8 263 yX8_findAtOnce ∈ kg_T := kg_inT 1047 (by decide +kernel) rfl
theorem lkM_X8_250 : Cond.methodLink RX8 250 yX8_openGates ∈ kg_T := kg_inT 1051 (by decide +kernel) rfl
theorem lkM_X8_238 : Cond.methodLink RX8 238 yX8_bits ∈ kg_T := kg_inT 1055 (by decide +kernel) rfl
theorem lkM_X8_253 : Cond.methodLink RX8 253 yX8_choose ∈ kg_T := kg_inT 1058 (by decide +kernel) rfl
theorem lkM_X8_241 : Cond.methodLink RX8 241 yX8_pairBits ∈ kg_T := kg_inT 1062 (by decide +kernel) rfl
theorem lkM_X8_256 : Cond.methodLink RX8 256 yX8_pairUp ∈ kg_T := kg_inT 1066 (by decide +kernel) rfl
theorem lkM_X8_260 : Cond.methodLink RX8 260 yX8_isFirst ∈ kg_T := kg_inT 1070 (by decide +kernel) rfl
theorem lkM_L_87 : Cond.methodLink RL 87 yX8_sides ∈ kg_T := kg_inT 1074 (by decide +kernel) rfl
theorem lkM_X8_279 : Cond.methodLink RX8 279 yX8_isSet ∈ kg_T := kg_inT 1078 (by decide +kernel) rfl
theorem lkM_X8_282 : Cond.methodLink RX8 282 yX8_findMasks ∈ kg_T := kg_inT 1082 (by decide +kernel) rfl
theorem lkM_X8_285 : Cond.methodLink RX8 285 yX8_isThere ∈ kg_T := kg_inT 1086 (by decide +kernel) rfl
theorem lkM_X8_288 : Cond.methodLink RX8 288 yX8_anHour ∈ kg_T := kg_inT 1090 (by decide +kernel) rfl
theorem lkM_X8_276 : Cond.methodLink RX8 276 yX8_canMeet ∈ kg_T := kg_inT 1094 (by decide +kernel) rfl
theorem lkM_X8_272 : Cond.methodLink RX8 272 yX8_apart ∈ kg_T := kg_inT 1098 (by decide +kernel) rfl
theorem lkM_X8_269 : Cond.methodLink RX8 269 yX8_has ∈ kg_T := kg_inT 1101 (by decide +kernel) rfl
theorem lkM_L_91 : Cond.methodLink RL 91 yX8_steady ∈ kg_T := kg_inT 1104 (by decide +kernel) rfl
theorem lkM_X8_291 : Cond.methodLink RX8 291 yX8_likesNow ∈ kg_T := kg_inT 1108 (by decide +kernel) rfl
theorem lkM_L_95 : Cond.methodLink RL 95 yX8_loves ∈ kg_T := kg_inT 1112 (by decide +kernel) rfl
theorem lkM_X8_294 : Cond.methodLink RX8 294 yX8_mostLiked ∈ kg_T := kg_inT 1116 (by decide +kernel) rfl
theorem lkM_L_99 : Cond.methodLink RL 99 yX8_first ∈ kg_T := kg_inT 1120 (by decide +kernel) rfl
theorem lkM_X8_297 : Cond.methodLink RX8 297 yX8_madeIll ∈ kg_T := kg_inT 1124 (by decide +kernel) rfl
theorem lkM_L_103 : Cond.methodLink RL 103 yX8_dies ∈ kg_T := kg_inT 1128 (by decide +kernel) rfl
theorem lkM_L_107 : Cond.methodLink RL 107 yX8_oilFor ∈ kg_T := kg_inT 1132 (by decide +kernel) rfl
theorem lkD_X8_300 : Cond.constantLong RX8 300 (200) ∈ kg_T := kg_inT 1136 (by decide +kernel) rfl
theorem lkM_L_111 : Cond.methodLink RL 111 yX8_evening ∈ kg_T := kg_inT 1137 (by decide +kernel) rfl
theorem lkM_L_115 : Cond.methodLink RL 115 yX8_dry ∈ kg_T := kg_inT 1141 (by decide +kernel) rfl
theorem lkD_X8_302 : Cond.constantLong RX8 302 (100) ∈ kg_T := kg_inT 1145 (by decide +kernel) rfl
theorem lkD_X8_304 : Cond.constantLong RX8 304 (1000000000) ∈ kg_T := kg_inT 1146 (by decide +kernel) rfl
theorem lkM_L_120 : Cond.methodLink RL 120 yX8_ill ∈ kg_T := kg_inT 1147 (by decide +kernel) rfl
theorem lkM_L_124 : Cond.methodLink RL 124 yX8_mayBe ∈ kg_T := kg_inT 1151 (by decide +kernel) rfl
theorem lkM_X8_306 : Cond.methodLink RX8 306 yX8_couldBe ∈ kg_T := kg_inT 1155 (by decide +kernel) rfl
theorem lkM_L_128 : Cond.methodLink RL 128 yX8_ask ∈ kg_T := kg_inT 1159 (by decide +kernel) rfl
theorem lkM_L_132 : Cond.methodLink RL 132 yX8_write ∈ kg_T := kg_inT 1163 (by decide +kernel) rfl
theorem lkM_L_136 : Cond.methodLink RL 136 yX8_tear ∈ kg_T := kg_inT 1167 (by decide +kernel) rfl
theorem lkM_L_140 : Cond.methodLink RL 140 yX8_judge ∈ kg_T := kg_inT 1171 (by decide +kernel) rfl
theorem lkM_L_144 : Cond.methodLink RL 144 yX8_seed ∈ kg_T := kg_inT 1175 (by decide +kernel) rfl
theorem lkM_L_148 : Cond.methodLink RL 148 yX8_keep ∈ kg_T := kg_inT 1179 (by decide +kernel) rfl
theorem lkM_L_152 : Cond.methodLink RL 152 yX8_goBack ∈ kg_T := kg_inT 1183 (by decide +kernel) rfl
theorem kg_tNat : Cond.native arraycopyName ∈ kg_T := kg_inT 497 (by decide +kernel) rfl
theorem kg_tStat : Cond.static arraycopyName ∈ kg_T := kg_inT 496 (by decide +kernel) rfl
theorem kg_tSys : Cond.initialized "java/lang/System" ∈ kg_T := kg_inT 76 (by decide +kernel) rfl
theorem kg_tOi : Cond.instanceMethod Lib.objectInit ∈ kg_T := kg_inT 85 (by decide +kernel) rfl
theorem kg_tOc : Cond.code Lib.objectInit ⟨#[0xb1]⟩ 1 none ∈ kg_T := kg_inT 86 (by decide +kernel) rfl
theorem kg_tArr0 : Cond.arrayClass (newarray.typeOf .int) ∈ kg_T := kg_inT 114 (by decide +kernel) rfl
theorem kg_tArr1 : Cond.arrayClass (newarray.typeOf .boolean) ∈ kg_T := kg_inT 286 (by decide +kernel) rfl
end
section
/-! ===== the memory: rows of ints (M) and of references (R) by a cell's number; n cells stand, cell k at b0 + k ===== -/
abbrev kg_M : Type := Nat → Nat → Int32
abbrev kg_R : Type := Nat → Nat → Option Nat
/-- classes' numbers and slots, the three array classes, where our cells begin, the launch -/
abbrev kg_G : Type := va_G × (ClassId × ClassId × ClassId) × Nat × Launch
abbrev kg_q : Type := MethodName × ByteArray × Nat × Option FieldType
abbrev kg_b (G : kg_G) : Nat := G.2.2.1
def kg_row (M : kg_M) (k : Nat) (f : Nat → Int32) : kg_M := fun a => if a = k then f else M a
def kg_rrow (R : kg_R) (k : Nat) (f : Nat → Option Nat) : kg_R := fun a => if a = k then f else R a
theorem kg_row_eq (M : kg_M) (k : Nat) (f : Nat → Int32) : kg_row M k f k = f := by simp [kg_row]
theorem kg_row_ne (M : kg_M) {k a : Nat} (f : Nat → Int32) (h : a ≠ k) : kg_row M k f a = M a := by simp [kg_row, h]
theorem kg_rrow_eq (R : kg_R) (k : Nat) (f : Nat → Option Nat) : kg_rrow R k f k = f := by simp [kg_rrow]
theorem kg_rrow_ne (R : kg_R) {k a : Nat} (f : Nat → Option Nat) (h : a ≠ k) : kg_rrow R k f a = R a := by simp [kg_rrow, h]
theorem kg_row_row (M : kg_M) (k : Nat) (f g : Nat → Int32) : kg_row (kg_row M k f) k g = kg_row M k g := by
  funext a; by_cases h : a = k <;> simp [kg_row, h]
theorem kg_row_self (M : kg_M) (k : Nat) : kg_row M k (M k) = M := by
  funext a; by_cases h : a = k <;> simp [kg_row, h]
def kg_fs (b0 : Nat) (M : kg_M) (R : kg_R) (k : Nat) : List Bool → Nat → List Value
  | [], _ => []
  | r :: rs, j => (if r = true then va_rf ((R k j).map (b0 + ·)) else Value.int (M k j)) :: kg_fs b0 M R k rs (j + 1)
theorem kg_fs_get (b0 : Nat) (M : kg_M) (R : kg_R) (k : Nat) : ∀ (ks : List Bool) (j i : Nat), (kg_fs b0 M R k ks j)[i]? = ks[i]?.map (fun r => if r = true then va_rf ((R k (j + i)).map (b0 + ·)) else Value.int (M k (j + i)))
  | [], _, _ => by simp [kg_fs]
  | r :: rs, j, 0 => by simp [kg_fs]
  | r :: rs, j, i + 1 => by
    rw [kg_fs, List.getElem?_cons_succ, List.getElem?_cons_succ, kg_fs_get b0 M R k rs (j + 1) i, show j + 1 + i = j + (i + 1) by omega]
theorem kg_fs_len (b0 : Nat) (M : kg_M) (R : kg_R) (k : Nat) : ∀ (ks : List Bool) (j : Nat), (kg_fs b0 M R k ks j).length = ks.length
  | [], _ => rfl
  | r :: rs, j => by rw [kg_fs, List.length_cons, List.length_cons, kg_fs_len b0 M R k rs (j + 1)]
theorem kg_fs_congr (b0 : Nat) {M M' : kg_M} {R R' : kg_R} {k : Nat} (ks : List Bool) (j : Nat) (hM : M' k = M k) (hR : R' k = R k) : kg_fs b0 M' R' k ks j = kg_fs b0 M R k ks j := by
  apply List.ext_getElem?
  intro i
  rw [kg_fs_get, kg_fs_get, hM, hR]
theorem kg_fs_setI (b0 : Nat) (M : kg_M) (R : kg_R) (k : Nat) (ks : List Bool) {i : Nat} (v : Int32) (h : ks[i]? = some false) : (kg_fs b0 M R k ks 0).set i (.int v) = kg_fs b0 (kg_row M k (upd (M k) i v)) R k ks 0 := by
  apply List.ext_getElem?
  intro x
  rw [kg_fs_get, List.getElem?_set, kg_fs_get, kg_fs_len]
  have hi : i < ks.length := (List.getElem?_eq_some_iff.mp h).1
  by_cases hx : i = x
  · subst hx
    rw [if_pos rfl, if_pos hi, h]
    simp [kg_row, upd]
  · rw [if_neg hx, kg_row_eq]
    have h2 : ¬ x = i := fun e => hx e.symm
    simp [upd, h2]
theorem kg_fs_setR (b0 : Nat) (M : kg_M) (R : kg_R) (k : Nat) (ks : List Bool) {i : Nat} (v : Option Nat) (h : ks[i]? = some true) : (kg_fs b0 M R k ks 0).set i (va_rf (v.map (b0 + ·))) = kg_fs b0 M (kg_rrow R k (va_up (R k) i v)) k ks 0 := by
  apply List.ext_getElem?
  intro x
  rw [kg_fs_get, List.getElem?_set, kg_fs_get, kg_fs_len]
  have hi : i < ks.length := (List.getElem?_eq_some_iff.mp h).1
  by_cases hx : i = x
  · subst hx
    rw [if_pos rfl, if_pos hi, h]
    simp [kg_rrow, va_up]
  · rw [if_neg hx, kg_rrow_eq]
    have h2 : ¬ x = i := fun e => hx e.symm
    simp [va_up, h2]
def kg_cell (G : kg_G) (M : kg_M) (R : kg_R) (k : Nat) : va_E := match kg_SH k with
  | .inl ci => .inr (ci, kg_fs (kg_b G) M R k (kg_kd.getD ci []) 0)
  | .inr x => if x.1 = 0 then .inl (G.2.1.1, x.2, .inl (M k)) else if x.1 = 1 then .inl (G.2.1.2.1, x.2, .inl (M k)) else .inl (G.2.1.2.2, x.2, .inr (.inr (.inr (.inr (fun j => (R k j).map (kg_b G + ·))))))
theorem kg_cell_congr (G : kg_G) {M M' : kg_M} {R R' : kg_R} {k : Nat} (hM : M' k = M k) (hR : R' k = R k) : kg_cell G M' R' k = kg_cell G M R k := by
  unfold kg_cell
  rw [hM, hR]
  cases kg_SH k with
  | inl ci => simp only [kg_fs_congr (kg_b G) (kg_kd.getD ci []) 0 hM hR]
  | inr x => rfl
theorem kg_cell_o (G : kg_G) (M : kg_M) (R : kg_R) {k ci : Nat} (h : kg_SH k = .inl ci) : kg_cell G M R k = .inr (ci, kg_fs (kg_b G) M R k (kg_kd.getD ci []) 0) := by
  unfold kg_cell; rw [h]
theorem kg_cell_i (G : kg_G) (M : kg_M) (R : kg_R) {k n : Nat} (h : kg_SH k = .inr (0, n)) : kg_cell G M R k = .inl (G.2.1.1, n, .inl (M k)) := by
  unfold kg_cell; rw [h]; rfl
theorem kg_cell_z (G : kg_G) (M : kg_M) (R : kg_R) {k n : Nat} (h : kg_SH k = .inr (1, n)) : kg_cell G M R k = .inl (G.2.1.2.1, n, .inl (M k)) := by
  unfold kg_cell; rw [h]; rfl
theorem kg_cell_r (G : kg_G) (M : kg_M) (R : kg_R) {k n : Nat} (h : kg_SH k = .inr (2, n)) : kg_cell G M R k = .inl (G.2.1.2.2, n, .inr (.inr (.inr (.inr (fun j => (R k j).map (kg_b G + ·)))))) := by
  unfold kg_cell; rw [h]; rfl
def kg_w (G : kg_G) (M : kg_M) (R : kg_R) (n : Nat) : va_W := (List.range n).map fun k => (kg_b G + k, kg_cell G M R k)
theorem kg_w_get (G : kg_G) (M : kg_M) (R : kg_R) {n k : Nat} (h : k < n) : (kg_w G M R n)[k]? = some (kg_b G + k, kg_cell G M R k) := by
  simp [kg_w, h]
theorem kg_w_inv {G : kg_G} {M : kg_M} {R : kg_R} {n k : Nat} {x : Nat × va_E} (h : (kg_w G M R n)[k]? = some x) : k < n ∧ x = (kg_b G + k, kg_cell G M R k) := by
  have h1 : k < n := by
    have := (List.getElem?_eq_some_iff.mp h).1
    simpa [kg_w] using this
  rw [kg_w_get G M R h1] at h
  exact ⟨h1, (Option.some.inj h).symm⟩
theorem kg_w_set (G : kg_G) {M M' : kg_M} {R R' : kg_R} {n k : Nat} {e : va_E} (h : k < n) (hM : ∀ a, a ≠ k → M' a = M a) (hR : ∀ a, a ≠ k → R' a = R a) (he : kg_cell G M' R' k = e) : (kg_w G M R n).set k (kg_b G + k, e) = kg_w G M' R' n := by
  apply List.ext_getElem?
  intro i
  rw [List.getElem?_set]
  by_cases hi : k = i
  · subst hi
    rw [if_pos rfl, if_pos (by simp [kg_w, h]), kg_w_get G M' R' h, he]
  · rw [if_neg hi]
    by_cases hn : i < n
    · rw [kg_w_get G M R hn, kg_w_get G M' R' hn, kg_cell_congr G (hM i (fun e => hi e.symm)) (hR i (fun e => hi e.symm))]
    · simp [kg_w, hn]
theorem kg_w_push (G : kg_G) {M M' : kg_M} {R R' : kg_R} {n : Nat} {e : va_E} (hM : ∀ a, a ≠ n → M' a = M a) (hR : ∀ a, a ≠ n → R' a = R a) (he : kg_cell G M' R' n = e) : kg_w G M R n ++ [(kg_b G + n, e)] = kg_w G M' R' (n + 1) := by
  unfold kg_w
  rw [List.range_succ, List.map_append, List.map_singleton, he]
  congr 1
  apply List.map_congr_left
  intro a ha
  have h1 : a ≠ n := Nat.ne_of_lt (List.mem_range.mp ha)
  rw [kg_cell_congr G (hM a h1) (hR a h1)]
def kg_H (G : kg_G) (M : kg_M) (R : kg_R) (n : Nat) (H : Heap) : Prop := (n < kg_all → H.size = kg_b G + n) ∧ va_P G.1 vwCl (kg_w G M R n) H
abbrev kg_A (G : kg_G) : Nat → Prop := fun a => kg_b G ≤ a
theorem kg_D (G : kg_G) (M : kg_M) (R : kg_R) (n : Nat) : va_D (kg_A G) (kg_w G M R n) := by
  refine ⟨fun i j x y hx hy e => ?_, fun k x hx => ?_⟩
  · rw [(kg_w_inv hx).2, (kg_w_inv hy).2] at e
    exact Nat.add_left_cancel e
  · rw [(kg_w_inv hx).2]
    exact Nat.le_add_right _ _
theorem kg_good {y : MethodName} {cc : ByteArray} {nL : Nat} {ret : Option FieldType} (h : Cond.code y cc nL ret ∈ kg_T) : GoodIn kg_T (Cond.code y cc nL ret :: kg_T) := by
  intro w hw
  rcases List.mem_cons.mp hw with rfl | hw
  · exact ⟨h, good_of_word (List.mem_filter.mp h).2⟩
  · exact ⟨hw, good_of_word (List.mem_filter.mp hw).2⟩
def kg_tys (G : kg_G) : List (ClassId × FieldType) := [(G.2.1.1, .int), (G.2.1.2.1, .boolean), (G.2.1.2.2, .object "KissGates$State")]
def kg_KK (G : kg_G) (U : State) : Prop := va_K G.1 vwCl (kg_tys G) U ∧ (∀ x ∈ kg_nest, va_Nw (.methodLinkNest x.1 x.2.1 x.2.2.1 x.2.2.2) U) ∧ va_AO "KissGates$State" U
theorem kg_KK.warm {G : kg_G} {s U : State} (h : kg_KK G s) (hW : s.WarmedH U.vm) : kg_KK G U := ⟨va_K.moved hW.alike h.1, fun x hx => va_Nw.warmM hW (h.2.1 x hx), va_AO.moved hW.alike h.2.2⟩
theorem kg_KK.same {G : kg_G} {s U : State} (h : kg_KK G s) (hv : s.vm = U.vm) : kg_KK G U := ⟨va_K.moved (by rw [hv]; exact Vm.Alike.refl _) h.1, fun x hx => va_Nw.same rfl hv (h.2.1 x hx), va_AO.moved (by rw [hv]; exact Vm.Alike.refl _) h.2.2⟩
def kg_Cx (G : kg_G) (q : kg_q) (d : Nat) (p : Program) (Ro : Room) (s : State) (m : MethodId) (args : Array Value) (meth : Method) (c : Code) : Prop :=
  p.tables.exec = Jvm.exec ∧ c.code = q.2.1 ∧ c.maxLocals = q.2.2.1 ∧ s.vm.findClass q.1.cls = some m.cls ∧ (∀ w ∈ kg_T, w.before args s = true) ∧ kg_KK G s ∧ kg_b G ≤ s.heap.size ∧ d + 1 ≤ Ro.frames ∧ 60 * d + 60 ≤ Ro.locals ∧ (q.1.name = "<init>" → meth.name = "<init>")
abbrev kg_Post : Type := Option Int32 → kg_M → kg_R → Nat → Prop
def kg_Ret (G : kg_G) (q : kg_q) (p : Program) (e : Env) (Ro : Room) (s : State) (m : MethodId) (args : Array Value) (below : List Frame) (meth : Method) (c : Code) (Q : State → Prop) (mc ms : Nat) (Post : kg_Post) : Prop :=
  (∀ (pc : Nat) (ls : Array Slot) (r : Int32) (M : kg_M) (R : kg_R) (n : Nat) (H : Heap) (locs : List Loc) (cells slots : Nat), decode q.2.1 pc = .ok (.ireturn, 1) → Post (some r) M R n → kg_H G M R n H → va_S (kg_A G) s.heap H locs → cells ≤ mc → slots ≤ ms → W p G.2.2.2 e Ro s m args below meth c H locs cells slots Q (F0 m pc ls [.int r])) ∧
  (∀ (pc : Nat) (ls : Array Slot) (M : kg_M) (R : kg_R) (n : Nat) (H : Heap) (locs : List Loc) (cells slots : Nat), decode q.2.1 pc = .ok (.return_, 1) → Post none M R n → kg_H G M R n H → va_S (kg_A G) s.heap H locs → cells ≤ mc → slots ≤ ms → W p G.2.2.2 e Ro s m args below meth c H locs cells slots Q (F0 m pc ls []))
/-- from this frame of method q, with this memory, the method comes to its end with Post -/
def kg_Run (G : kg_G) (E : State → Array Value → Prop) (q : kg_q) (d pc : Nat) (lv : List (Nat × Value)) (st : List Value) (M : kg_M) (R : kg_R) (n kc ks : Nat) (Post : kg_Post) : Prop :=
  ∀ (p : Program) (e : Env) (Ro : Room) (s : State) (m : MethodId) (args : Array Value) (below : List Frame) (meth : Method) (c : Code) (Q : State → Prop) (mc ms : Nat), kg_Cx G q d p Ro s m args meth c → E s args → mc ≤ Ro.cells → ms ≤ Ro.slots → kg_Ret G q p e Ro s m args below meth c Q mc ms Post →
    ∀ (H : Heap) (locs : List Loc) (cells slots : Nat) (ls : Array Slot), kg_H G M R n H → va_S (kg_A G) s.heap H locs → cells + kc ≤ mc → slots + ks ≤ ms → lv_has ls q.2.2.1 lv → W p G.2.2.2 e Ro s m args below meth c H locs cells slots Q (F0 m pc ls st)
abbrev kg_E0 : State → Array Value → Prop := fun _ _ => True
theorem kg_Run.mono {G : kg_G} {E : State → Array Value → Prop} {q : kg_q} {d d' pc : Nat} {lv : List (Nat × Value)} {st : List Value} {M : kg_M} {R : kg_R} {n kc ks : Nat} {Post : kg_Post} (h : kg_Run G E q d pc lv st M R n kc ks Post) (hd : d ≤ d') : kg_Run G E q d' pc lv st M R n kc ks Post := by
  intro p e Ro s m args below meth c Q mc ms C
  obtain ⟨h1, h2, h3, h4, h5, h6, h7, h8, h9, h10⟩ := C
  exact h p e Ro s m args below meth c Q mc ms ⟨h1, h2, h3, h4, h5, h6, h7, by omega, by omega, h10⟩
theorem kg_Run.weaken {G : kg_G} {E : State → Array Value → Prop} {q : kg_q} {d pc : Nat} {lv : List (Nat × Value)} {st : List Value} {M : kg_M} {R : kg_R} {n kc ks : Nat} {Post Post' : kg_Post} (h : kg_Run G E q d pc lv st M R n kc ks Post) (hp : ∀ r M R n, Post r M R n → Post' r M R n) : kg_Run G E q d pc lv st M R n kc ks Post' := by
  intro p e Ro s m args below meth c Q mc ms C hE h1 h2 hR
  exact h p e Ro s m args below meth c Q mc ms C hE h1 h2 ⟨fun pc ls r M R n H locs cells slots a b => hR.1 pc ls r M R n H locs cells slots a (hp _ _ _ _ b), fun pc ls M R n H locs cells slots a b => hR.2 pc ls M R n H locs cells slots a (hp _ _ _ _ b)⟩
section KR
variable {G : kg_G} {E : State → Array Value → Prop} {q : kg_q} {d pc : Nat} {lv : List (Nat × Value)} {st : List Value} {M : kg_M} {R : kg_R} {n kc ks : Nat} {Post : kg_Post}
theorem kr_iconst {x : Int} (v : Int32) (hd : decode q.2.1 pc = .ok (.iconst x, 1)) (hv : Int32.ofInt x = v := by decide) (k : kg_Run G E q d (pc + 1) lv (.int v :: st) M R n kc ks Post) : kg_Run G E q d pc lv (st) M R n kc ks Post := by
  intro p e Ro s m args below meth c Q mc ms C hE hm1 hm2 hR H locs cells slots ls hH hS hc hs hl
  obtain ⟨hx, hb, hml, hown, hts, hK, hbs, hfr, hlo, hin⟩ := id C
  exact lv_iconst hx hb hd hv (k p e Ro s m args below meth c Q mc ms C hE hm1 hm2 hR H locs cells slots ls hH hS hc hs hl)
theorem kr_bipush {x : Int} (v : Int32) (hd : decode q.2.1 pc = .ok (.bipush x, 2)) (hv : (Int8.ofInt x).toInt32 = v := by decide) (k : kg_Run G E q d (pc + 2) lv (.int v :: st) M R n kc ks Post) : kg_Run G E q d pc lv (st) M R n kc ks Post := by
  intro p e Ro s m args below meth c Q mc ms C hE hm1 hm2 hR H locs cells slots ls hH hS hc hs hl
  obtain ⟨hx, hb, hml, hown, hts, hK, hbs, hfr, hlo, hin⟩ := id C
  exact lv_bipush hx hb hd hv (k p e Ro s m args below meth c Q mc ms C hE hm1 hm2 hR H locs cells slots ls hH hS hc hs hl)
theorem kr_sipush {x : Int} (v : Int32) (hd : decode q.2.1 pc = .ok (.sipush x, 3)) (hv : (Int16.ofInt x).toInt32 = v := by decide) (k : kg_Run G E q d (pc + 3) lv (.int v :: st) M R n kc ks Post) : kg_Run G E q d pc lv (st) M R n kc ks Post := by
  intro p e Ro s m args below meth c Q mc ms C hE hm1 hm2 hR H locs cells slots ls hH hS hc hs hl
  obtain ⟨hx, hb, hml, hown, hts, hK, hbs, hfr, hlo, hin⟩ := id C
  exact lv_sipush hx hb hd hv (k p e Ro s m args below meth c Q mc ms C hE hm1 hm2 hR H locs cells slots ls hH hS hc hs hl)
theorem kr_ldc {i : Nat} {v : Int32} (hd : decode q.2.1 pc = .ok (.ldc i, 2)) (hv : Cond.constant q.1.cls i v ∈ kg_T) (k : kg_Run G E q d (pc + 2) lv (.int v :: st) M R n kc ks Post) : kg_Run G E q d pc lv (st) M R n kc ks Post := by
  intro p e Ro s m args below meth c Q mc ms C hE hm1 hm2 hR H locs cells slots ls hH hS hc hs hl
  obtain ⟨hx, hb, hml, hown, hts, hK, hbs, hfr, hlo, hin⟩ := id C
  exact lv_ldc hx hb hown (hts _ hv) hd (k p e Ro s m args below meth c Q mc ms C hE hm1 hm2 hR H locs cells slots ls hH hS hc hs hl)
theorem kr_ldcw {i : Nat} {v : Int32} (hd : decode q.2.1 pc = .ok (.ldc_w i, 3)) (hv : Cond.constant q.1.cls i v ∈ kg_T) (k : kg_Run G E q d (pc + 3) lv (.int v :: st) M R n kc ks Post) : kg_Run G E q d pc lv (st) M R n kc ks Post := by
  intro p e Ro s m args below meth c Q mc ms C hE hm1 hm2 hR H locs cells slots ls hH hS hc hs hl
  obtain ⟨hx, hb, hml, hown, hts, hK, hbs, hfr, hlo, hin⟩ := id C
  exact lv_ldcw hx hb hown (hts _ hv) hd (k p e Ro s m args below meth c Q mc ms C hE hm1 hm2 hR H locs cells slots ls hH hS hc hs hl)
theorem kr_ldc2 {i : Nat} {v : Int64} (hd : decode q.2.1 pc = .ok (.ldc2_w i, 3)) (hv : Cond.constantLong q.1.cls i v ∈ kg_T) (k : kg_Run G E q d (pc + 3) lv (.long v :: st) M R n kc ks Post) : kg_Run G E q d pc lv (st) M R n kc ks Post := by
  intro p e Ro s m args below meth c Q mc ms C hE hm1 hm2 hR H locs cells slots ls hH hS hc hs hl
  obtain ⟨hx, hb, hml, hown, hts, hK, hbs, hfr, hlo, hin⟩ := id C
  exact lv_ldc2 hx hb hown (hts _ hv) hd (k p e Ro s m args below meth c Q mc ms C hE hm1 hm2 hR H locs cells slots ls hH hS hc hs hl)
theorem kr_lconst {x : Fin 2} (v : Int64) (hd : decode q.2.1 pc = .ok (.lconst x, 1)) (hv : Int64.ofNat (x : Nat) = v := by decide) (k : kg_Run G E q d (pc + 1) lv (.long v :: st) M R n kc ks Post) : kg_Run G E q d pc lv (st) M R n kc ks Post := by
  intro p e Ro s m args below meth c Q mc ms C hE hm1 hm2 hR H locs cells slots ls hH hS hc hs hl
  obtain ⟨hx, hb, hml, hown, hts, hK, hbs, hfr, hlo, hin⟩ := id C
  exact lv_lconst hx hb hd hv (k p e Ro s m args below meth c Q mc ms C hE hm1 hm2 hR H locs cells slots ls hH hS hc hs hl)
theorem kr_iload_n {x : Fin 4} {i : Nat} {v : Int32} (j : Nat) (hd : decode q.2.1 pc = .ok (.iload_n x, 1)) (hj : lv[j]? = some (i, .int v)) (hi : (x : Nat) = i := by rfl) (k : kg_Run G E q d (pc + 1) lv (.int v :: st) M R n kc ks Post) : kg_Run G E q d pc lv (st) M R n kc ks Post := by
  intro p e Ro s m args below meth c Q mc ms C hE hm1 hm2 hR H locs cells slots ls hH hS hc hs hl
  obtain ⟨hx, hb, hml, hown, hts, hK, hbs, hfr, hlo, hin⟩ := id C
  exact lv_iload_n hx hb hd hi (lv_at hl j hj) (k p e Ro s m args below meth c Q mc ms C hE hm1 hm2 hR H locs cells slots ls hH hS hc hs hl)
theorem kr_iload {i : Nat} {v : Int32} (j : Nat) (hd : decode q.2.1 pc = .ok (.iload i, 2)) (hj : lv[j]? = some (i, .int v)) (k : kg_Run G E q d (pc + 2) lv (.int v :: st) M R n kc ks Post) : kg_Run G E q d pc lv (st) M R n kc ks Post := by
  intro p e Ro s m args below meth c Q mc ms C hE hm1 hm2 hR H locs cells slots ls hH hS hc hs hl
  obtain ⟨hx, hb, hml, hown, hts, hK, hbs, hfr, hlo, hin⟩ := id C
  exact lv_iload hx hb hd (lv_at hl j hj) (k p e Ro s m args below meth c Q mc ms C hE hm1 hm2 hR H locs cells slots ls hH hS hc hs hl)
theorem kr_lload_n {x : Fin 4} {i : Nat} {v : Int64} (j : Nat) (hd : decode q.2.1 pc = .ok (.lload_n x, 1)) (hj : lv[j]? = some (i, .long v)) (hi : (x : Nat) = i := by rfl) (k : kg_Run G E q d (pc + 1) lv (.long v :: st) M R n kc ks Post) : kg_Run G E q d pc lv (st) M R n kc ks Post := by
  intro p e Ro s m args below meth c Q mc ms C hE hm1 hm2 hR H locs cells slots ls hH hS hc hs hl
  obtain ⟨hx, hb, hml, hown, hts, hK, hbs, hfr, hlo, hin⟩ := id C
  exact lv_lload_n hx hb hd hi (lv_at hl j hj) (k p e Ro s m args below meth c Q mc ms C hE hm1 hm2 hR H locs cells slots ls hH hS hc hs hl)
theorem kr_lload {i : Nat} {v : Int64} (j : Nat) (hd : decode q.2.1 pc = .ok (.lload i, 2)) (hj : lv[j]? = some (i, .long v)) (k : kg_Run G E q d (pc + 2) lv (.long v :: st) M R n kc ks Post) : kg_Run G E q d pc lv (st) M R n kc ks Post := by
  intro p e Ro s m args below meth c Q mc ms C hE hm1 hm2 hR H locs cells slots ls hH hS hc hs hl
  obtain ⟨hx, hb, hml, hown, hts, hK, hbs, hfr, hlo, hin⟩ := id C
  exact lv_lload hx hb hd (lv_at hl j hj) (k p e Ro s m args below meth c Q mc ms C hE hm1 hm2 hR H locs cells slots ls hH hS hc hs hl)
theorem kr_aload_n {x : Fin 4} {i : Nat} {v : Nat} (j : Nat) (hd : decode q.2.1 pc = .ok (.aload_n x, 1)) (hj : lv[j]? = some (i, .ref v)) (hi : (x : Nat) = i := by rfl) (k : kg_Run G E q d (pc + 1) lv (.ref v :: st) M R n kc ks Post) : kg_Run G E q d pc lv (st) M R n kc ks Post := by
  intro p e Ro s m args below meth c Q mc ms C hE hm1 hm2 hR H locs cells slots ls hH hS hc hs hl
  obtain ⟨hx, hb, hml, hown, hts, hK, hbs, hfr, hlo, hin⟩ := id C
  exact lv_aload_n hx hb hd hi (lv_at hl j hj) (k p e Ro s m args below meth c Q mc ms C hE hm1 hm2 hR H locs cells slots ls hH hS hc hs hl)
theorem kr_aload {i : Nat} {v : Nat} (j : Nat) (hd : decode q.2.1 pc = .ok (.aload i, 2)) (hj : lv[j]? = some (i, .ref v)) (k : kg_Run G E q d (pc + 2) lv (.ref v :: st) M R n kc ks Post) : kg_Run G E q d pc lv (st) M R n kc ks Post := by
  intro p e Ro s m args below meth c Q mc ms C hE hm1 hm2 hR H locs cells slots ls hH hS hc hs hl
  obtain ⟨hx, hb, hml, hown, hts, hK, hbs, hfr, hlo, hin⟩ := id C
  exact lv_aload hx hb hd (lv_at hl j hj) (k p e Ro s m args below meth c Q mc ms C hE hm1 hm2 hR H locs cells slots ls hH hS hc hs hl)
theorem kr_istore_n {x : Fin 4} {i : Nat} {v : Int32} (lv' : List (Nat × Value)) (hd : decode q.2.1 pc = .ok (.istore_n x, 1)) (hi : (x : Nat) = i := by rfl) (hl2 : (i, Value.int v) :: lv.filter (fun w => !(w.1 == i) && !(w.1 + 1 == i && w.2.category == 2)) = lv' := by rfl) (hi2 : i < q.2.2.1 := by decide) (k : kg_Run G E q d (pc + 1) lv' st M R n kc ks Post) : kg_Run G E q d pc lv (.int v :: st) M R n kc ks Post := by
  intro p e Ro s m args below meth c Q mc ms C hE hm1 hm2 hR H locs cells slots ls hH hS hc hs hl
  obtain ⟨hx, hb, hml, hown, hts, hK, hbs, hfr, hlo, hin⟩ := id C
  exact lv_istore_n hx hb hd hi hl hi2 hl2 (fun ls hl => k p e Ro s m args below meth c Q mc ms C hE hm1 hm2 hR H locs cells slots ls hH hS hc hs hl)
theorem kr_istore {i : Nat} {v : Int32} (lv' : List (Nat × Value)) (hd : decode q.2.1 pc = .ok (.istore i, 2)) (hl2 : (i, Value.int v) :: lv.filter (fun w => !(w.1 == i) && !(w.1 + 1 == i && w.2.category == 2)) = lv' := by rfl) (hi2 : i < q.2.2.1 := by decide) (k : kg_Run G E q d (pc + 2) lv' st M R n kc ks Post) : kg_Run G E q d pc lv (.int v :: st) M R n kc ks Post := by
  intro p e Ro s m args below meth c Q mc ms C hE hm1 hm2 hR H locs cells slots ls hH hS hc hs hl
  obtain ⟨hx, hb, hml, hown, hts, hK, hbs, hfr, hlo, hin⟩ := id C
  exact lv_istore hx hb hd hl hi2 hl2 (fun ls hl => k p e Ro s m args below meth c Q mc ms C hE hm1 hm2 hR H locs cells slots ls hH hS hc hs hl)
theorem kr_astore_n {x : Fin 4} {i : Nat} {v : Nat} (lv' : List (Nat × Value)) (hd : decode q.2.1 pc = .ok (.astore_n x, 1)) (hi : (x : Nat) = i := by rfl) (hl2 : (i, Value.ref v) :: lv.filter (fun w => !(w.1 == i) && !(w.1 + 1 == i && w.2.category == 2)) = lv' := by rfl) (hi2 : i < q.2.2.1 := by decide) (k : kg_Run G E q d (pc + 1) lv' st M R n kc ks Post) : kg_Run G E q d pc lv (.ref v :: st) M R n kc ks Post := by
  intro p e Ro s m args below meth c Q mc ms C hE hm1 hm2 hR H locs cells slots ls hH hS hc hs hl
  obtain ⟨hx, hb, hml, hown, hts, hK, hbs, hfr, hlo, hin⟩ := id C
  exact lv_astore_n hx hb hd hi hl hi2 hl2 (fun ls hl => k p e Ro s m args below meth c Q mc ms C hE hm1 hm2 hR H locs cells slots ls hH hS hc hs hl)
theorem kr_lstore_n {x : Fin 4} {i : Nat} {v : Int64} (lv' : List (Nat × Value)) (hd : decode q.2.1 pc = .ok (.lstore_n x, 1)) (hi : (x : Nat) = i := by rfl) (hl2 : (i, Value.long v) :: lv.filter (fun w => !(w.1 == i) && (!(w.1 == i + 1) && !(w.1 + 1 == i && w.2.category == 2))) = lv' := by rfl) (hi2 : i + 1 < q.2.2.1 := by decide) (k : kg_Run G E q d (pc + 1) lv' st M R n kc ks Post) : kg_Run G E q d pc lv (.long v :: st) M R n kc ks Post := by
  intro p e Ro s m args below meth c Q mc ms C hE hm1 hm2 hR H locs cells slots ls hH hS hc hs hl
  obtain ⟨hx, hb, hml, hown, hts, hK, hbs, hfr, hlo, hin⟩ := id C
  exact lv_lstore_n hx hb hd hi hl hi2 hl2 (fun ls hl => k p e Ro s m args below meth c Q mc ms C hE hm1 hm2 hR H locs cells slots ls hH hS hc hs hl)
theorem kr_iinc {i : Nat} {x : Int} {v : Int32} (w : Int32) (j : Nat) (lv' : List (Nat × Value)) (hd : decode q.2.1 pc = .ok (.iinc i x, 3)) (hj : lv[j]? = some (i, .int v)) (hl2 : (i, Value.int (v + w)) :: lv.filter (fun w => !(w.1 == i) && !(w.1 + 1 == i && w.2.category == 2)) = lv' := by rfl) (hv : Int32.ofInt x = w := by decide) (hi2 : i < q.2.2.1 := by decide) (k : kg_Run G E q d (pc + 3) lv' st M R n kc ks Post) : kg_Run G E q d pc lv st M R n kc ks Post := by
  intro p e Ro s m args below meth c Q mc ms C hE hm1 hm2 hR H locs cells slots ls hH hS hc hs hl
  obtain ⟨hx, hb, hml, hown, hts, hK, hbs, hfr, hlo, hin⟩ := id C
  exact lv_iinc hx hb hd hl hj (by rw [hv]) hi2 hl2 (fun ls hl => k p e Ro s m args below meth c Q mc ms C hE hm1 hm2 hR H locs cells slots ls hH hS hc hs hl)
theorem kr_iadd {x y : Int32} (hd : decode q.2.1 pc = .ok (.iadd, 1)) (k : kg_Run G E q d (pc + 1) lv (.int (x + y) :: st) M R n kc ks Post) : kg_Run G E q d pc lv (.int y :: .int x :: st) M R n kc ks Post := by
  intro p e Ro s m args below meth c Q mc ms C hE hm1 hm2 hR H locs cells slots ls hH hS hc hs hl
  obtain ⟨hx, hb, hml, hown, hts, hK, hbs, hfr, hlo, hin⟩ := id C
  exact lv_iadd hx hb hd (k p e Ro s m args below meth c Q mc ms C hE hm1 hm2 hR H locs cells slots ls hH hS hc hs hl)
theorem kr_isub {x y : Int32} (hd : decode q.2.1 pc = .ok (.isub, 1)) (k : kg_Run G E q d (pc + 1) lv (.int (x - y) :: st) M R n kc ks Post) : kg_Run G E q d pc lv (.int y :: .int x :: st) M R n kc ks Post := by
  intro p e Ro s m args below meth c Q mc ms C hE hm1 hm2 hR H locs cells slots ls hH hS hc hs hl
  obtain ⟨hx, hb, hml, hown, hts, hK, hbs, hfr, hlo, hin⟩ := id C
  exact lv_isub hx hb hd (k p e Ro s m args below meth c Q mc ms C hE hm1 hm2 hR H locs cells slots ls hH hS hc hs hl)
theorem kr_imul {x y : Int32} (hd : decode q.2.1 pc = .ok (.imul, 1)) (k : kg_Run G E q d (pc + 1) lv (.int (x * y) :: st) M R n kc ks Post) : kg_Run G E q d pc lv (.int y :: .int x :: st) M R n kc ks Post := by
  intro p e Ro s m args below meth c Q mc ms C hE hm1 hm2 hR H locs cells slots ls hH hS hc hs hl
  obtain ⟨hx, hb, hml, hown, hts, hK, hbs, hfr, hlo, hin⟩ := id C
  exact lv_imul hx hb hd (k p e Ro s m args below meth c Q mc ms C hE hm1 hm2 hR H locs cells slots ls hH hS hc hs hl)
theorem kr_iand {x y : Int32} (hd : decode q.2.1 pc = .ok (.iand, 1)) (k : kg_Run G E q d (pc + 1) lv (.int (x &&& y) :: st) M R n kc ks Post) : kg_Run G E q d pc lv (.int y :: .int x :: st) M R n kc ks Post := by
  intro p e Ro s m args below meth c Q mc ms C hE hm1 hm2 hR H locs cells slots ls hH hS hc hs hl
  obtain ⟨hx, hb, hml, hown, hts, hK, hbs, hfr, hlo, hin⟩ := id C
  exact lv_iand hx hb hd (k p e Ro s m args below meth c Q mc ms C hE hm1 hm2 hR H locs cells slots ls hH hS hc hs hl)
theorem kr_ior {x y : Int32} (hd : decode q.2.1 pc = .ok (.ior, 1)) (k : kg_Run G E q d (pc + 1) lv (.int (x ||| y) :: st) M R n kc ks Post) : kg_Run G E q d pc lv (.int y :: .int x :: st) M R n kc ks Post := by
  intro p e Ro s m args below meth c Q mc ms C hE hm1 hm2 hR H locs cells slots ls hH hS hc hs hl
  obtain ⟨hx, hb, hml, hown, hts, hK, hbs, hfr, hlo, hin⟩ := id C
  exact lv_ior hx hb hd (k p e Ro s m args below meth c Q mc ms C hE hm1 hm2 hR H locs cells slots ls hH hS hc hs hl)
theorem kr_ixor {x y : Int32} (hd : decode q.2.1 pc = .ok (.ixor, 1)) (k : kg_Run G E q d (pc + 1) lv (.int (x ^^^ y) :: st) M R n kc ks Post) : kg_Run G E q d pc lv (.int y :: .int x :: st) M R n kc ks Post := by
  intro p e Ro s m args below meth c Q mc ms C hE hm1 hm2 hR H locs cells slots ls hH hS hc hs hl
  obtain ⟨hx, hb, hml, hown, hts, hK, hbs, hfr, hlo, hin⟩ := id C
  exact lv_ixor hx hb hd (k p e Ro s m args below meth c Q mc ms C hE hm1 hm2 hR H locs cells slots ls hH hS hc hs hl)
theorem kr_ishl {x y : Int32} (hd : decode q.2.1 pc = .ok (.ishl, 1)) (k : kg_Run G E q d (pc + 1) lv (.int (x <<< (y &&& 31)) :: st) M R n kc ks Post) : kg_Run G E q d pc lv (.int y :: .int x :: st) M R n kc ks Post := by
  intro p e Ro s m args below meth c Q mc ms C hE hm1 hm2 hR H locs cells slots ls hH hS hc hs hl
  obtain ⟨hx, hb, hml, hown, hts, hK, hbs, hfr, hlo, hin⟩ := id C
  exact lv_ishl hx hb hd (k p e Ro s m args below meth c Q mc ms C hE hm1 hm2 hR H locs cells slots ls hH hS hc hs hl)
theorem kr_ishr {x y : Int32} (hd : decode q.2.1 pc = .ok (.ishr, 1)) (k : kg_Run G E q d (pc + 1) lv (.int (x >>> (y &&& 31)) :: st) M R n kc ks Post) : kg_Run G E q d pc lv (.int y :: .int x :: st) M R n kc ks Post := by
  intro p e Ro s m args below meth c Q mc ms C hE hm1 hm2 hR H locs cells slots ls hH hS hc hs hl
  obtain ⟨hx, hb, hml, hown, hts, hK, hbs, hfr, hlo, hin⟩ := id C
  exact lv_ishr hx hb hd (k p e Ro s m args below meth c Q mc ms C hE hm1 hm2 hR H locs cells slots ls hH hS hc hs hl)
theorem kr_iushr {x y : Int32} (hd : decode q.2.1 pc = .ok (.iushr, 1)) (k : kg_Run G E q d (pc + 1) lv (.int ((x.toUInt32 >>> (y.toUInt32 &&& Int32.toUInt32 31)).toInt32) :: st) M R n kc ks Post) : kg_Run G E q d pc lv (.int y :: .int x :: st) M R n kc ks Post := by
  intro p e Ro s m args below meth c Q mc ms C hE hm1 hm2 hR H locs cells slots ls hH hS hc hs hl
  obtain ⟨hx, hb, hml, hown, hts, hK, hbs, hfr, hlo, hin⟩ := id C
  exact lv_iushr hx hb hd rfl (k p e Ro s m args below meth c Q mc ms C hE hm1 hm2 hR H locs cells slots ls hH hS hc hs hl)
theorem kr_idiv {x y : Int32} (hd : decode q.2.1 pc = .ok (.idiv, 1)) (hne : ¬ y = 0) (k : kg_Run G E q d (pc + 1) lv (.int (x / y) :: st) M R n kc ks Post) : kg_Run G E q d pc lv (.int y :: .int x :: st) M R n kc ks Post := by
  intro p e Ro s m args below meth c Q mc ms C hE hm1 hm2 hR H locs cells slots ls hH hS hc hs hl
  obtain ⟨hx, hb, hml, hown, hts, hK, hbs, hfr, hlo, hin⟩ := id C
  exact lv_idiv hx hb hd hne (k p e Ro s m args below meth c Q mc ms C hE hm1 hm2 hR H locs cells slots ls hH hS hc hs hl)
theorem kr_irem {x y : Int32} (hd : decode q.2.1 pc = .ok (.irem, 1)) (hne : ¬ y = 0) (k : kg_Run G E q d (pc + 1) lv (.int (x - x / y * y) :: st) M R n kc ks Post) : kg_Run G E q d pc lv (.int y :: .int x :: st) M R n kc ks Post := by
  intro p e Ro s m args below meth c Q mc ms C hE hm1 hm2 hR H locs cells slots ls hH hS hc hs hl
  obtain ⟨hx, hb, hml, hown, hts, hK, hbs, hfr, hlo, hin⟩ := id C
  exact lv_irem hx hb hd hne (k p e Ro s m args below meth c Q mc ms C hE hm1 hm2 hR H locs cells slots ls hH hS hc hs hl)
theorem kr_ladd {x y : Int64} (hd : decode q.2.1 pc = .ok (.ladd, 1)) (k : kg_Run G E q d (pc + 1) lv (.long (x + y) :: st) M R n kc ks Post) : kg_Run G E q d pc lv (.long y :: .long x :: st) M R n kc ks Post := by
  intro p e Ro s m args below meth c Q mc ms C hE hm1 hm2 hR H locs cells slots ls hH hS hc hs hl
  obtain ⟨hx, hb, hml, hown, hts, hK, hbs, hfr, hlo, hin⟩ := id C
  exact lv_ladd hx hb hd (k p e Ro s m args below meth c Q mc ms C hE hm1 hm2 hR H locs cells slots ls hH hS hc hs hl)
theorem kr_lmul {x y : Int64} (hd : decode q.2.1 pc = .ok (.lmul, 1)) (k : kg_Run G E q d (pc + 1) lv (.long (x * y) :: st) M R n kc ks Post) : kg_Run G E q d pc lv (.long y :: .long x :: st) M R n kc ks Post := by
  intro p e Ro s m args below meth c Q mc ms C hE hm1 hm2 hR H locs cells slots ls hH hS hc hs hl
  obtain ⟨hx, hb, hml, hown, hts, hK, hbs, hfr, hlo, hin⟩ := id C
  exact lv_lmul hx hb hd (k p e Ro s m args below meth c Q mc ms C hE hm1 hm2 hR H locs cells slots ls hH hS hc hs hl)
theorem kr_ldiv {x y : Int64} (hd : decode q.2.1 pc = .ok (.ldiv, 1)) (hne : ¬ y = 0) (k : kg_Run G E q d (pc + 1) lv (.long (x / y) :: st) M R n kc ks Post) : kg_Run G E q d pc lv (.long y :: .long x :: st) M R n kc ks Post := by
  intro p e Ro s m args below meth c Q mc ms C hE hm1 hm2 hR H locs cells slots ls hH hS hc hs hl
  obtain ⟨hx, hb, hml, hown, hts, hK, hbs, hfr, hlo, hin⟩ := id C
  exact lv_ldiv hx hb hd hne (k p e Ro s m args below meth c Q mc ms C hE hm1 hm2 hR H locs cells slots ls hH hS hc hs hl)
theorem kr_lrem {x y : Int64} (hd : decode q.2.1 pc = .ok (.lrem, 1)) (hne : ¬ y = 0) (k : kg_Run G E q d (pc + 1) lv (.long (x - x / y * y) :: st) M R n kc ks Post) : kg_Run G E q d pc lv (.long y :: .long x :: st) M R n kc ks Post := by
  intro p e Ro s m args below meth c Q mc ms C hE hm1 hm2 hR H locs cells slots ls hH hS hc hs hl
  obtain ⟨hx, hb, hml, hown, hts, hK, hbs, hfr, hlo, hin⟩ := id C
  exact lv_lrem hx hb hd hne (k p e Ro s m args below meth c Q mc ms C hE hm1 hm2 hR H locs cells slots ls hH hS hc hs hl)
theorem kr_lcmp {x y : Int64} (hd : decode q.2.1 pc = .ok (.lcmp, 1)) (k : kg_Run G E q d (pc + 1) lv (.int (lg_cmp x y) :: st) M R n kc ks Post) : kg_Run G E q d pc lv (.long y :: .long x :: st) M R n kc ks Post := by
  intro p e Ro s m args below meth c Q mc ms C hE hm1 hm2 hR H locs cells slots ls hH hS hc hs hl
  obtain ⟨hx, hb, hml, hown, hts, hK, hbs, hfr, hlo, hin⟩ := id C
  exact W.lcmp hx hb hd (k p e Ro s m args below meth c Q mc ms C hE hm1 hm2 hR H locs cells slots ls hH hS hc hs hl)
theorem kr_i2l {x : Int32} (hd : decode q.2.1 pc = .ok (.i2l, 1)) (k : kg_Run G E q d (pc + 1) lv (.long x.toInt64 :: st) M R n kc ks Post) : kg_Run G E q d pc lv (.int x :: st) M R n kc ks Post := by
  intro p e Ro s m args below meth c Q mc ms C hE hm1 hm2 hR H locs cells slots ls hH hS hc hs hl
  obtain ⟨hx, hb, hml, hown, hts, hK, hbs, hfr, hlo, hin⟩ := id C
  exact lv_i2l hx hb hd rfl (k p e Ro s m args below meth c Q mc ms C hE hm1 hm2 hR H locs cells slots ls hH hS hc hs hl)
theorem kr_l2i {x : Int64} (hd : decode q.2.1 pc = .ok (.l2i, 1)) (k : kg_Run G E q d (pc + 1) lv (.int x.toInt32 :: st) M R n kc ks Post) : kg_Run G E q d pc lv (.long x :: st) M R n kc ks Post := by
  intro p e Ro s m args below meth c Q mc ms C hE hm1 hm2 hR H locs cells slots ls hH hS hc hs hl
  obtain ⟨hx, hb, hml, hown, hts, hK, hbs, hfr, hlo, hin⟩ := id C
  exact lv_l2i hx hb hd rfl (k p e Ro s m args below meth c Q mc ms C hE hm1 hm2 hR H locs cells slots ls hH hS hc hs hl)
theorem kr_dup {va : Value} (hd : decode q.2.1 pc = .ok (.dup, 1)) (h1 : va.category = 1 := by rfl) (k : kg_Run G E q d (pc + 1) lv (va :: va :: st) M R n kc ks Post) : kg_Run G E q d pc lv (va :: st) M R n kc ks Post := by
  intro p e Ro s m args below meth c Q mc ms C hE hm1 hm2 hR H locs cells slots ls hH hS hc hs hl
  obtain ⟨hx, hb, hml, hown, hts, hK, hbs, hfr, hlo, hin⟩ := id C
  exact lv_dup hx hb hd h1 (k p e Ro s m args below meth c Q mc ms C hE hm1 hm2 hR H locs cells slots ls hH hS hc hs hl)
theorem kr_dup2 {va vb : Value} (hd : decode q.2.1 pc = .ok (.dup2, 1)) (h1 : va.category = 1 := by rfl) (h2 : vb.category = 1 := by rfl) (k : kg_Run G E q d (pc + 1) lv (va :: vb :: va :: vb :: st) M R n kc ks Post) : kg_Run G E q d pc lv (va :: vb :: st) M R n kc ks Post := by
  intro p e Ro s m args below meth c Q mc ms C hE hm1 hm2 hR H locs cells slots ls hH hS hc hs hl
  obtain ⟨hx, hb, hml, hown, hts, hK, hbs, hfr, hlo, hin⟩ := id C
  exact lv_dup2_11 hx hb hd h1 h2 (k p e Ro s m args below meth c Q mc ms C hE hm1 hm2 hR H locs cells slots ls hH hS hc hs hl)
theorem kr_if_eq {x : Int32} {off : Int} (tgt : Nat) (hd : decode q.2.1 pc = .ok (.ifCond .eq off, 3)) (kt : x = 0 → kg_Run G E q d tgt lv st M R n kc ks Post) (kf : ¬ x = 0 → kg_Run G E q d (pc + 3) lv st M R n kc ks Post) (ht : (pc : Int) + off = (tgt : Int) := by decide) : kg_Run G E q d pc lv (.int x :: st) M R n kc ks Post := by
  intro p e Ro s m args below meth c Q mc ms C hE hm1 hm2 hR H locs cells slots ls hH hS hc hs hl
  obtain ⟨hx, hb, hml, hown, hts, hK, hbs, hfr, hlo, hin⟩ := id C
  exact lv_if_eq hx hb hd ht (fun h => kt h p e Ro s m args below meth c Q mc ms C hE hm1 hm2 hR H locs cells slots ls hH hS hc hs hl) (fun h => kf h p e Ro s m args below meth c Q mc ms C hE hm1 hm2 hR H locs cells slots ls hH hS hc hs hl)
theorem kr_icmp_eq {x y : Int32} {off : Int} (tgt : Nat) (hd : decode q.2.1 pc = .ok (.if_icmp .eq off, 3)) (kt : x = y → kg_Run G E q d tgt lv st M R n kc ks Post) (kf : ¬ x = y → kg_Run G E q d (pc + 3) lv st M R n kc ks Post) (ht : (pc : Int) + off = (tgt : Int) := by decide) : kg_Run G E q d pc lv (.int y :: .int x :: st) M R n kc ks Post := by
  intro p e Ro s m args below meth c Q mc ms C hE hm1 hm2 hR H locs cells slots ls hH hS hc hs hl
  obtain ⟨hx, hb, hml, hown, hts, hK, hbs, hfr, hlo, hin⟩ := id C
  exact lv_icmp_eq hx hb hd ht (fun h => kt h p e Ro s m args below meth c Q mc ms C hE hm1 hm2 hR H locs cells slots ls hH hS hc hs hl) (fun h => kf h p e Ro s m args below meth c Q mc ms C hE hm1 hm2 hR H locs cells slots ls hH hS hc hs hl)
theorem kr_if_ne {x : Int32} {off : Int} (tgt : Nat) (hd : decode q.2.1 pc = .ok (.ifCond .ne off, 3)) (kt : ¬ x = 0 → kg_Run G E q d tgt lv st M R n kc ks Post) (kf : x = 0 → kg_Run G E q d (pc + 3) lv st M R n kc ks Post) (ht : (pc : Int) + off = (tgt : Int) := by decide) : kg_Run G E q d pc lv (.int x :: st) M R n kc ks Post := by
  intro p e Ro s m args below meth c Q mc ms C hE hm1 hm2 hR H locs cells slots ls hH hS hc hs hl
  obtain ⟨hx, hb, hml, hown, hts, hK, hbs, hfr, hlo, hin⟩ := id C
  exact lv_if_ne hx hb hd ht (fun h => kt h p e Ro s m args below meth c Q mc ms C hE hm1 hm2 hR H locs cells slots ls hH hS hc hs hl) (fun h => kf h p e Ro s m args below meth c Q mc ms C hE hm1 hm2 hR H locs cells slots ls hH hS hc hs hl)
theorem kr_icmp_ne {x y : Int32} {off : Int} (tgt : Nat) (hd : decode q.2.1 pc = .ok (.if_icmp .ne off, 3)) (kt : ¬ x = y → kg_Run G E q d tgt lv st M R n kc ks Post) (kf : x = y → kg_Run G E q d (pc + 3) lv st M R n kc ks Post) (ht : (pc : Int) + off = (tgt : Int) := by decide) : kg_Run G E q d pc lv (.int y :: .int x :: st) M R n kc ks Post := by
  intro p e Ro s m args below meth c Q mc ms C hE hm1 hm2 hR H locs cells slots ls hH hS hc hs hl
  obtain ⟨hx, hb, hml, hown, hts, hK, hbs, hfr, hlo, hin⟩ := id C
  exact lv_icmp_ne hx hb hd ht (fun h => kt h p e Ro s m args below meth c Q mc ms C hE hm1 hm2 hR H locs cells slots ls hH hS hc hs hl) (fun h => kf h p e Ro s m args below meth c Q mc ms C hE hm1 hm2 hR H locs cells slots ls hH hS hc hs hl)
theorem kr_if_lt {x : Int32} {off : Int} (tgt : Nat) (hd : decode q.2.1 pc = .ok (.ifCond .lt off, 3)) (kt : x < 0 → kg_Run G E q d tgt lv st M R n kc ks Post) (kf : ¬ x < 0 → kg_Run G E q d (pc + 3) lv st M R n kc ks Post) (ht : (pc : Int) + off = (tgt : Int) := by decide) : kg_Run G E q d pc lv (.int x :: st) M R n kc ks Post := by
  intro p e Ro s m args below meth c Q mc ms C hE hm1 hm2 hR H locs cells slots ls hH hS hc hs hl
  obtain ⟨hx, hb, hml, hown, hts, hK, hbs, hfr, hlo, hin⟩ := id C
  exact lv_if_lt hx hb hd ht (fun h => kt h p e Ro s m args below meth c Q mc ms C hE hm1 hm2 hR H locs cells slots ls hH hS hc hs hl) (fun h => kf h p e Ro s m args below meth c Q mc ms C hE hm1 hm2 hR H locs cells slots ls hH hS hc hs hl)
theorem kr_icmp_lt {x y : Int32} {off : Int} (tgt : Nat) (hd : decode q.2.1 pc = .ok (.if_icmp .lt off, 3)) (kt : x < y → kg_Run G E q d tgt lv st M R n kc ks Post) (kf : ¬ x < y → kg_Run G E q d (pc + 3) lv st M R n kc ks Post) (ht : (pc : Int) + off = (tgt : Int) := by decide) : kg_Run G E q d pc lv (.int y :: .int x :: st) M R n kc ks Post := by
  intro p e Ro s m args below meth c Q mc ms C hE hm1 hm2 hR H locs cells slots ls hH hS hc hs hl
  obtain ⟨hx, hb, hml, hown, hts, hK, hbs, hfr, hlo, hin⟩ := id C
  exact lv_icmp_lt hx hb hd ht (fun h => kt h p e Ro s m args below meth c Q mc ms C hE hm1 hm2 hR H locs cells slots ls hH hS hc hs hl) (fun h => kf h p e Ro s m args below meth c Q mc ms C hE hm1 hm2 hR H locs cells slots ls hH hS hc hs hl)
theorem kr_if_ge {x : Int32} {off : Int} (tgt : Nat) (hd : decode q.2.1 pc = .ok (.ifCond .ge off, 3)) (kt : 0 ≤ x → kg_Run G E q d tgt lv st M R n kc ks Post) (kf : ¬ 0 ≤ x → kg_Run G E q d (pc + 3) lv st M R n kc ks Post) (ht : (pc : Int) + off = (tgt : Int) := by decide) : kg_Run G E q d pc lv (.int x :: st) M R n kc ks Post := by
  intro p e Ro s m args below meth c Q mc ms C hE hm1 hm2 hR H locs cells slots ls hH hS hc hs hl
  obtain ⟨hx, hb, hml, hown, hts, hK, hbs, hfr, hlo, hin⟩ := id C
  exact lv_if_ge hx hb hd ht (fun h => kt h p e Ro s m args below meth c Q mc ms C hE hm1 hm2 hR H locs cells slots ls hH hS hc hs hl) (fun h => kf h p e Ro s m args below meth c Q mc ms C hE hm1 hm2 hR H locs cells slots ls hH hS hc hs hl)
theorem kr_icmp_ge {x y : Int32} {off : Int} (tgt : Nat) (hd : decode q.2.1 pc = .ok (.if_icmp .ge off, 3)) (kt : y ≤ x → kg_Run G E q d tgt lv st M R n kc ks Post) (kf : ¬ y ≤ x → kg_Run G E q d (pc + 3) lv st M R n kc ks Post) (ht : (pc : Int) + off = (tgt : Int) := by decide) : kg_Run G E q d pc lv (.int y :: .int x :: st) M R n kc ks Post := by
  intro p e Ro s m args below meth c Q mc ms C hE hm1 hm2 hR H locs cells slots ls hH hS hc hs hl
  obtain ⟨hx, hb, hml, hown, hts, hK, hbs, hfr, hlo, hin⟩ := id C
  exact lv_icmp_ge hx hb hd ht (fun h => kt h p e Ro s m args below meth c Q mc ms C hE hm1 hm2 hR H locs cells slots ls hH hS hc hs hl) (fun h => kf h p e Ro s m args below meth c Q mc ms C hE hm1 hm2 hR H locs cells slots ls hH hS hc hs hl)
theorem kr_if_gt {x : Int32} {off : Int} (tgt : Nat) (hd : decode q.2.1 pc = .ok (.ifCond .gt off, 3)) (kt : 0 < x → kg_Run G E q d tgt lv st M R n kc ks Post) (kf : ¬ 0 < x → kg_Run G E q d (pc + 3) lv st M R n kc ks Post) (ht : (pc : Int) + off = (tgt : Int) := by decide) : kg_Run G E q d pc lv (.int x :: st) M R n kc ks Post := by
  intro p e Ro s m args below meth c Q mc ms C hE hm1 hm2 hR H locs cells slots ls hH hS hc hs hl
  obtain ⟨hx, hb, hml, hown, hts, hK, hbs, hfr, hlo, hin⟩ := id C
  exact lv_if_gt hx hb hd ht (fun h => kt h p e Ro s m args below meth c Q mc ms C hE hm1 hm2 hR H locs cells slots ls hH hS hc hs hl) (fun h => kf h p e Ro s m args below meth c Q mc ms C hE hm1 hm2 hR H locs cells slots ls hH hS hc hs hl)
theorem kr_icmp_gt {x y : Int32} {off : Int} (tgt : Nat) (hd : decode q.2.1 pc = .ok (.if_icmp .gt off, 3)) (kt : y < x → kg_Run G E q d tgt lv st M R n kc ks Post) (kf : ¬ y < x → kg_Run G E q d (pc + 3) lv st M R n kc ks Post) (ht : (pc : Int) + off = (tgt : Int) := by decide) : kg_Run G E q d pc lv (.int y :: .int x :: st) M R n kc ks Post := by
  intro p e Ro s m args below meth c Q mc ms C hE hm1 hm2 hR H locs cells slots ls hH hS hc hs hl
  obtain ⟨hx, hb, hml, hown, hts, hK, hbs, hfr, hlo, hin⟩ := id C
  exact lv_icmp_gt hx hb hd ht (fun h => kt h p e Ro s m args below meth c Q mc ms C hE hm1 hm2 hR H locs cells slots ls hH hS hc hs hl) (fun h => kf h p e Ro s m args below meth c Q mc ms C hE hm1 hm2 hR H locs cells slots ls hH hS hc hs hl)
theorem kr_if_le {x : Int32} {off : Int} (tgt : Nat) (hd : decode q.2.1 pc = .ok (.ifCond .le off, 3)) (kt : x ≤ 0 → kg_Run G E q d tgt lv st M R n kc ks Post) (kf : ¬ x ≤ 0 → kg_Run G E q d (pc + 3) lv st M R n kc ks Post) (ht : (pc : Int) + off = (tgt : Int) := by decide) : kg_Run G E q d pc lv (.int x :: st) M R n kc ks Post := by
  intro p e Ro s m args below meth c Q mc ms C hE hm1 hm2 hR H locs cells slots ls hH hS hc hs hl
  obtain ⟨hx, hb, hml, hown, hts, hK, hbs, hfr, hlo, hin⟩ := id C
  exact lv_if_le hx hb hd ht (fun h => kt h p e Ro s m args below meth c Q mc ms C hE hm1 hm2 hR H locs cells slots ls hH hS hc hs hl) (fun h => kf h p e Ro s m args below meth c Q mc ms C hE hm1 hm2 hR H locs cells slots ls hH hS hc hs hl)
theorem kr_icmp_le {x y : Int32} {off : Int} (tgt : Nat) (hd : decode q.2.1 pc = .ok (.if_icmp .le off, 3)) (kt : x ≤ y → kg_Run G E q d tgt lv st M R n kc ks Post) (kf : ¬ x ≤ y → kg_Run G E q d (pc + 3) lv st M R n kc ks Post) (ht : (pc : Int) + off = (tgt : Int) := by decide) : kg_Run G E q d pc lv (.int y :: .int x :: st) M R n kc ks Post := by
  intro p e Ro s m args below meth c Q mc ms C hE hm1 hm2 hR H locs cells slots ls hH hS hc hs hl
  obtain ⟨hx, hb, hml, hown, hts, hK, hbs, hfr, hlo, hin⟩ := id C
  exact lv_icmp_le hx hb hd ht (fun h => kt h p e Ro s m args below meth c Q mc ms C hE hm1 hm2 hR H locs cells slots ls hH hS hc hs hl) (fun h => kf h p e Ro s m args below meth c Q mc ms C hE hm1 hm2 hR H locs cells slots ls hH hS hc hs hl)
theorem kr_goto {off : Int} (tgt : Nat) (hd : decode q.2.1 pc = .ok (.goto off, 3)) (k : kg_Run G E q d tgt lv st M R n kc ks Post) (ht : (pc : Int) + off = (tgt : Int) := by decide) : kg_Run G E q d pc lv st M R n kc ks Post := by
  intro p e Ro s m args below meth c Q mc ms C hE hm1 hm2 hR H locs cells slots ls hH hS hc hs hl
  obtain ⟨hx, hb, hml, hown, hts, hK, hbs, hfr, hlo, hin⟩ := id C
  exact lv_goto hx hb hd ht (k p e Ro s m args below meth c Q mc ms C hE hm1 hm2 hR H locs cells slots ls hH hS hc hs hl)
theorem kr_tableIn {dflt lo hi : Int} {offs : Array Int} {len : Nat} {x : Int32} {off : Int} (tgt : Nat) (hd : decode q.2.1 pc = .ok (.tableswitch dflt lo hi offs, len)) (h1 : ¬ x.toInt < lo) (h2 : ¬ hi < x.toInt) (ho : offs[(x.toInt - lo).toNat]? = some off) (ht : (pc : Int) + off = (tgt : Int)) (k : kg_Run G E q d tgt lv st M R n kc ks Post) : kg_Run G E q d pc lv (.int x :: st) M R n kc ks Post := by
  intro p e Ro s m args below meth c Q mc ms C hE hm1 hm2 hR H locs cells slots ls hH hS hc hs hl
  obtain ⟨hx, hb, hml, hown, hts, hK, hbs, hfr, hlo, hin⟩ := id C
  exact lv_tableIn hx hb hd h1 h2 ho ht (k p e Ro s m args below meth c Q mc ms C hE hm1 hm2 hR H locs cells slots ls hH hS hc hs hl)
theorem kr_tableOut {dflt lo hi : Int} {offs : Array Int} {len : Nat} {x : Int32} (tgt : Nat) (hd : decode q.2.1 pc = .ok (.tableswitch dflt lo hi offs, len)) (h : x.toInt < lo ∨ hi < x.toInt) (ht : (pc : Int) + dflt = (tgt : Int)) (k : kg_Run G E q d tgt lv st M R n kc ks Post) : kg_Run G E q d pc lv (.int x :: st) M R n kc ks Post := by
  intro p e Ro s m args below meth c Q mc ms C hE hm1 hm2 hR H locs cells slots ls hH hS hc hs hl
  obtain ⟨hx, hb, hml, hown, hts, hK, hbs, hfr, hlo, hin⟩ := id C
  exact lv_tableOut hx hb hd h ht (k p e Ro s m args below meth c Q mc ms C hE hm1 hm2 hR H locs cells slots ls hH hS hc hs hl)
theorem kr_lookup {dflt : Int} {ps : Array (Int × Int)} {len : Nat} {x : Int32} {off : Int} (tgt : Nat) (hd : decode q.2.1 pc = .ok (.lookupswitch dflt ps, len)) (hp : (ps.toList.zip (ps.toList.drop 1)).all (fun (a, next) => a.1 < next.1) = true) (ho : Op.lookupswitch.offset ps.toList dflt x.toInt = off) (ht : (pc : Int) + off = (tgt : Int)) (k : kg_Run G E q d tgt lv st M R n kc ks Post) : kg_Run G E q d pc lv (.int x :: st) M R n kc ks Post := by
  intro p e Ro s m args below meth c Q mc ms C hE hm1 hm2 hR H locs cells slots ls hH hS hc hs hl
  obtain ⟨hx, hb, hml, hown, hts, hK, hbs, hfr, hlo, hin⟩ := id C
  exact lv_lookup hx hb hd hp ho ht (k p e Ro s m args below meth c Q mc ms C hE hm1 hm2 hR H locs cells slots ls hH hS hc hs hl)
theorem kr_ireturn {r : Int32} (hd : decode q.2.1 pc = .ok (.ireturn, 1)) (hp : Post (some r) M R n) : kg_Run G E q d pc lv [.int r] M R n kc ks Post := by
  intro p e Ro s m args below meth c Q mc ms C hE hm1 hm2 hR H locs cells slots ls hH hS hc hs hl
  obtain ⟨hx, hb, hml, hown, hts, hK, hbs, hfr, hlo, hin⟩ := id C
  exact hR.1 pc ls r M R n H locs cells slots hd hp hH hS (by omega) (by omega)
theorem kr_return (hd : decode q.2.1 pc = .ok (.return_, 1)) (hp : Post none M R n) : kg_Run G E q d pc lv [] M R n kc ks Post := by
  intro p e Ro s m args below meth c Q mc ms C hE hm1 hm2 hR H locs cells slots ls hH hS hc hs hl
  obtain ⟨hx, hb, hml, hown, hts, hK, hbs, hfr, hlo, hin⟩ := id C
  exact hR.2 pc ls M R n H locs cells slots hd hp hH hS (by omega) (by omega)
/-- what is fixed of a class: its row, its words, its fields' types and names, which fields are references -/
def kg_CK (ci : Nat) (Cn : String) (T : u_T) (N : Nat) (ty : Nat → FieldType) : Prop :=
  vwCl[ci]? = some (Cn, T, N) ∧ (∀ w ∈ u_ws Cn T N, w ∈ kg_T) ∧ (∀ k, k < N → parseFieldDescriptor (T k).2.2.1 = some (ty k)) ∧ (∀ a, a < N → ∀ b, b < N → a ≠ b → (T a).2.1 ≠ (T b).2.1) ∧ (kg_kd.getD ci []).length = N ∧ Cond.instantiable Cn N ∈ kg_T ∧ Cond.initialized Cn ∈ kg_T ∧ (∀ k, k < N → defaultValue (ty k) = if (kg_kd.getD ci [])[k]? = some true then Value.null else Value.int 0)
theorem kr_getI {ci N i : Nat} {Cn : String} {T : u_T} {ty : Nat → FieldType} {a : Nat} (j : Nat) (hC : kg_CK ci Cn T N ty) (hlk : Cond.fieldLink q.1.cls i (T j).1 (T j).2.1 (T j).2.2.1 ∈ kg_T) (hkd : (kg_kd.getD ci [])[j]? = some false) (hsh : kg_SH a = .inl ci) (han : a < n) (hd : decode q.2.1 pc = .ok (.getfield i, 3)) (k : kg_Run G E q d (pc + 3) lv (.int (M a j) :: st) M R n kc ks Post) : kg_Run G E q d pc lv (.ref (kg_b G + a) :: st) M R n kc ks Post := by
  intro p e Ro s m args below meth c Q mc ms C hE hm1 hm2 hR H locs cells slots ls hH hS hc hs hl
  obtain ⟨hx, hb, hml, hown, hts, hK, hbs, hfr, hlo, hin⟩ := id C
  have hj : j < N := by rw [← hC.2.2.2.2.1]; exact (List.getElem?_eq_some_iff.mp hkd).1
  exact va_get (D := G.1) (v := .int (M a j)) hx hb hts hC.2.1 hown hK.1 hH.2 a (by rw [kg_w_get G M R han, kg_cell_o G M R hsh]) hC.1 j hj (hts _ hlk) (fun _ h9 => h9) (by rw [kg_fs_get, hkd]; simp) hd (k p e Ro s m args below meth c Q mc ms C hE hm1 hm2 hR H locs cells slots ls hH hS hc hs hl)
theorem kr_getR {ci N i : Nat} {Cn : String} {T : u_T} {ty : Nat → FieldType} {a : Nat} (j : Nat) {v : Nat} (hC : kg_CK ci Cn T N ty) (hlk : Cond.fieldLink q.1.cls i (T j).1 (T j).2.1 (T j).2.2.1 ∈ kg_T) (hkd : (kg_kd.getD ci [])[j]? = some true) (hsh : kg_SH a = .inl ci) (han : a < n) (hv : R a j = some v) (hd : decode q.2.1 pc = .ok (.getfield i, 3)) (k : kg_Run G E q d (pc + 3) lv (.ref (kg_b G + v) :: st) M R n kc ks Post) : kg_Run G E q d pc lv (.ref (kg_b G + a) :: st) M R n kc ks Post := by
  intro p e Ro s m args below meth c Q mc ms C hE hm1 hm2 hR H locs cells slots ls hH hS hc hs hl
  obtain ⟨hx, hb, hml, hown, hts, hK, hbs, hfr, hlo, hin⟩ := id C
  have hj : j < N := by rw [← hC.2.2.2.2.1]; exact (List.getElem?_eq_some_iff.mp hkd).1
  exact va_get (D := G.1) (v := .ref (kg_b G + v)) hx hb hts hC.2.1 hown hK.1 hH.2 a (by rw [kg_w_get G M R han, kg_cell_o G M R hsh]) hC.1 j hj (hts _ hlk) (fun _ h9 => h9) (by rw [kg_fs_get, hkd]; simp [hv, va_rf]) hd (k p e Ro s m args below meth c Q mc ms C hE hm1 hm2 hR H locs cells slots ls hH hS hc hs hl)
theorem kg_putH {H1 : Heap} {a j ci : Nat} {v : Int32} (hsh : kg_SH a = .inl ci) (hkd : (kg_kd.getD ci [])[j]? = some false) (han : a < n) (hP : va_P G.1 vwCl ((kg_w G M R n).set a (kg_b G + a, .inr (ci, (kg_fs (kg_b G) M R a (kg_kd.getD ci []) 0).set j (.int v)))) H1) : va_P G.1 vwCl (kg_w G (kg_row M a (upd (M a) j v)) R n) H1 := by
  rw [kg_fs_setI _ _ _ _ _ _ hkd] at hP
  rw [← kg_w_set G (M := M) (R := R) (R' := R) (M' := kg_row M a (upd (M a) j v)) han (fun x hx => kg_row_ne M _ hx) (fun _ _ => rfl) (kg_cell_o G _ _ hsh)]
  exact hP
theorem kg_putHR {H1 : Heap} {a j ci : Nat} {v : Nat} (hsh : kg_SH a = .inl ci) (hkd : (kg_kd.getD ci [])[j]? = some true) (han : a < n) (hP : va_P G.1 vwCl ((kg_w G M R n).set a (kg_b G + a, .inr (ci, (kg_fs (kg_b G) M R a (kg_kd.getD ci []) 0).set j (.ref (kg_b G + v))))) H1) : va_P G.1 vwCl (kg_w G M (kg_rrow R a (va_up (R a) j (some v))) n) H1 := by
  rw [show Value.ref (kg_b G + v) = va_rf ((some v).map (kg_b G + ·)) from rfl, kg_fs_setR _ _ _ _ _ _ hkd] at hP
  rw [← kg_w_set G (M := M) (R := R) (M' := M) (R' := kg_rrow R a (va_up (R a) j (some v))) han (fun _ _ => rfl) (fun x hx => kg_rrow_ne R _ hx) (kg_cell_o G _ _ hsh)]
  exact hP
end KR
section KP
variable {p : Program} {l : Launch} {e : Env} {R : Room} {s : State} {m : MethodId} {args : Array Value} {below : List Frame} {meth : Method} {c : Code} {H : Heap} {locs : List Loc} {cells slots : Nat} {Q : State → Prop}
variable {cc : ByteArray} {pc : Nat} {ls : Array Slot} {rest : List Value} {D : va_G} {cl : List vw_C} {A : Nat → Prop} {a : Nat} {tys : List (ClassId × FieldType)} {ws : va_W} {H0 : Heap}
/-- a field is written; the heap's size stays -/
theorem kg_put (hexec : p.tables.exec = Jvm.exec) (hb : c.code = cc) {own C : String} {T : u_T} {N ci index : Nat} {Ts : List Cond} (hts : ∀ w ∈ Ts, w.before args s = true) (hin : ∀ w ∈ u_ws C T N, w ∈ Ts) (ty0 : Nat → FieldType) (hty : ∀ k, k < N → parseFieldDescriptor (T k).2.2.1 = some (ty0 k)) (hnm : ∀ a, a < N → ∀ b, b < N → a ≠ b → (T a).2.1 ≠ (T b).2.1) (hown : s.vm.findClass own = some m.cls) (hK : va_K D cl tys s) (hP : va_P D cl ws H) (hD : va_D A ws) (hS0 : va_S A H0 H locs) (q0 : Nat) {fs : List Value} (he : ws[q0]? = some (a, .inr (ci, fs))) (hc : cl[ci]? = some (C, T, N)) (k : Nat) (hk : k < N) (hlink : (Cond.fieldLink own index (T k).1 (T k).2.1 (T k).2.2.1).before args s = true) (hfin : (T k).2.2.2 = false ∨ ((T k).2.2.2 = true ∧ meth.name = "<init>" ∧ (T k).1 = own)) {v : Value} (hn : narrow (ty0 k) v = v) (hfit : fits (ty0 k) v = true) (hl : k < fs.length)
    (hdg : decode cc pc = .ok (.putfield index, 3)) (kk : ∀ (H1 : Heap) (locs1 : List Loc), va_P D cl (ws.set q0 (a, .inr (ci, fs.set k v))) H1 → H1.size = H.size → va_S A H0 H1 locs1 → W p l e R s m args below meth c H1 locs1 cells slots Q (F0 m (pc + 3) ls rest)) : W p l e R s m args below meth c H locs cells slots Q (F0 m pc ls (v :: .ref a :: rest)) := by
  have hap := va_apart (own := own) hts hin ty0 hty hnm hK hc
  obtain ⟨r, h1, cell, q1, q2, q3, q4⟩ := hP q0 _ he
  have hr : r = (C, T, N) := Option.some.inj (h1.symm.trans hc)
  subst hr
  obtain ⟨hS, hfc, kC, hkC, hkind⟩ := hK.1 ci _ hc
  obtain ⟨cf, kf, fi, f, hi, hsl⟩ := hS k hk
  have hlay := hts _ (hin _ (u_in_lay hk))
  unfold u_lay at hlay
  have hst := (u_facts hfc hkC (u_lays hts hin hk) hi).1
  rcases hfin with hfin | ⟨hfin, hin2, hdecl⟩
  · rw [if_neg (by rw [hfin]; decide)] at hlay
    have h6 := u_store hfc hkC hkind hlay hi (hty k hk) hn hfit
    refine W.putK hexec hb (f := f) ⟨hown, hlink, ⟨_, _, _, hi⟩, hst⟩ (by rw [q2]; exact h6) q1 q3 (by rw [hsl]; exact k2_hasslot (q4 k hk)) rfl rfl hdg fun H' e1 e2 e3 => ?_
    rw [hsl] at e1 ⊢
    exact kk H' _ (hP.set hD he ⟨_, hc, t_OB.to (V := updV (vp_V fs) k v) ⟨_, e1, q2, q3, t_set q4 hap hk v⟩ (fun j _ => vp_updV_set hl v j)⟩ e3) e2 (hS0.put e2 e3 (hD.2 q0 _ he))
  · rw [if_pos hfin] at hlay
    have hcf : m.cls = cf := by
      obtain ⟨_, _, c', _, _, _, -, -, hf', -, -, -, hown2, -⟩ := Cond.laysFinal_spec hlay
      have e1 : c' = cf := by have := hi.symm.trans hf'; simp at this; exact this.1.symm
      rw [hdecl] at hown2
      rw [← e1]; exact Option.some.inj (hown.symm.trans hown2)
    have h6 := u_fits hfc hkC hkind (Or.inr hlay) hi (hty k hk) hn hfit
    refine W.putFinK hexec hb hown hlink hi hst hcf hin2 (by rw [q2]; exact h6) q1 q3 (by rw [hsl]; exact k2_hasslot (q4 k hk)) rfl rfl hdg fun H' e1 e2 e3 => ?_
    rw [hsl] at e1 ⊢
    exact kk H' _ (hP.set hD he ⟨_, hc, t_OB.to (V := updV (vp_V fs) k v) ⟨_, e1, q2, q3, t_set q4 hap hk v⟩ (fun j _ => vp_updV_set hl v j)⟩ e3) e2 (hS0.put e2 e3 (hD.2 q0 _ he))
theorem kg_iast (hexec : p.tables.exec = Jvm.exec) (hb : c.code = cc) (hK : va_K D cl tys s) (hP : va_P D cl ws H) (hD : va_D A ws) (hS : va_S A H0 H locs) (q0 t0 : Nat) {cA : ClassId} {n : Nat} {f : Nat → Int32} (ha : ws[q0]? = some (a, .inl (cA, n, .inl f))) (ht : tys[t0]? = some (cA, .int)) {i : Int32} {x : Int32} (hin : vp_in i n) (hdg : decode cc pc = .ok (.iastore, 1))
    (kk : ∀ (H1 : Heap) (locs1 : List Loc), va_P D cl (ws.set q0 (a, .inl (cA, n, .inl (upd f i.toNatClampNeg x)))) H1 → H1.size = H.size → va_S A H0 H1 locs1 → W p l e R s m args below meth c H1 locs1 cells slots Q (F0 m (pc + 1) ls rest)) : W p l e R s m args below meth c H locs cells slots Q (F0 m pc ls (.int x :: .int i :: .ref a :: rest)) := by
  refine W.iast hexec hb (hP q0 _ ha) ((hK.2 t0 _ ht).1 n (fun j => .int (f j))) (fun q => by cases q) (by show ¬ (i < 0 ∨ (arrV _ _ _).slots.size ≤ _); rw [arrV_size]; exact hin) rfl rfl hdg fun H1 e z oq => ?_
  refine kk H1 _ (hP.set hD ha ?_ oq) z (hS.put z oq (hD.2 q0 _ ha))
  show H1[a]? = some (vp_cell _ _)
  rw [e, vp_cell_i, vp_cell_i, arrV_store]
  congr 2
  funext q
  by_cases hq : q = i.toNatClampNeg
  · subst hq
    simp [updV, upd]
  · simp [updV, upd, hq]
theorem kg_zast (hexec : p.tables.exec = Jvm.exec) (hb : c.code = cc) (hK : va_K D cl tys s) (hP : va_P D cl ws H) (hD : va_D A ws) (hS : va_S A H0 H locs) (q0 t0 : Nat) {cA : ClassId} {n : Nat} {f : Nat → Int32} (ha : ws[q0]? = some (a, .inl (cA, n, .inl f))) (ht : tys[t0]? = some (cA, .boolean)) {i : Int32} {x : Int32} (hin : vp_in i n) (hdg : decode cc pc = .ok (.bastore, 1))
    (kk : ∀ (H1 : Heap) (locs1 : List Loc), va_P D cl (ws.set q0 (a, .inl (cA, n, .inl (upd f i.toNatClampNeg (vp_nar .boolean x))))) H1 → H1.size = H.size → va_S A H0 H1 locs1 → W p l e R s m args below meth c H1 locs1 cells slots Q (F0 m (pc + 1) ls rest)) : W p l e R s m args below meth c H locs cells slots Q (F0 m pc ls (.int x :: .int i :: .ref a :: rest)) := by
  refine W.zast hexec hb (hP q0 _ ha) ((hK.2 t0 _ ht).1 n (fun j => .int (f j))) (fun q => by cases q) (by show ¬ (i < 0 ∨ (arrV _ _ _).slots.size ≤ _); rw [arrV_size]; exact hin) rfl rfl hdg fun H1 e z oq => ?_
  refine kk H1 _ (hP.set hD ha ?_ oq) z (hS.put z oq (hD.2 q0 _ ha))
  show H1[a]? = some (vp_cell _ _)
  rw [e, vp_cell_i, vp_cell_i, arrV_store]
  congr 2
  funext q
  by_cases hq : q = i.toNatClampNeg
  · subst hq
    simp [updV, upd, vp_nar]
    try rfl
  · simp [updV, upd, hq]
theorem kg_aast (hexec : p.tables.exec = Jvm.exec) (hb : c.code = cc) (hK : va_K D cl tys s) (hP : va_P D cl ws H) (hD : va_D A ws) (hS : va_S A H0 H locs) (q0 t0 qk ci : Nat) {cA : ClassId} {r : vw_C} {n v : Nat} {vs : List Value} {f : Nat → Option Nat} (ha : ws[q0]? = some (a, .inl (cA, n, .inr (.inr (.inr (.inr f)))))) (ht : tys[t0]? = some (cA, .object r.1)) (hv : ws[qk]? = some (v, .inr (ci, vs))) (hc : cl[ci]? = some r) {i : Int32} (hin : vp_in i n) (hdg : decode cc pc = .ok (.aastore, 1))
    (kk : ∀ (H1 : Heap) (locs1 : List Loc), va_P D cl (ws.set q0 (a, .inl (cA, n, .inr (.inr (.inr (.inr (va_up f i.toNatClampNeg (some v)))))))) H1 → H1.size = H.size → va_S A H0 H1 locs1 → W p l e R s m args below meth c H1 locs1 cells slots Q (F0 m (pc + 1) ls rest)) : W p l e R s m args below meth c H locs cells slots Q (F0 m pc ls (.ref v :: .int i :: .ref a :: rest)) := by
  have hlt : i.toNatClampNeg < n := Nat.not_le.mp fun q => hin (Or.inr q)
  have h0 : ¬ i < 0 := fun q => hin (Or.inl q)
  obtain ⟨r', hr', cellV, g1, g2, g3, -⟩ := hP qk _ hv
  have hcls := (hK.1 ci r hc).2
  obtain ⟨kA, comp, k1, k2, k3, -⟩ := (hK.2 t0 _ ht).2
  have hcomp : comp = D.1 ci := Option.some.inj (k3.symm.trans hcls.1)
  subst hcomp
  obtain ⟨kC, hkC, -⟩ := hcls.2
  refine W.aast hexec hb (hP q0 _ ha) (fun q h => by cases h) (fun h => by cases h) k1 k2 rfl hkC ⟨h0, by show _ < (arrV _ _ _).slots.size; rw [arrV_size]; exact hlt⟩ g1 (fun q h => by rw [g3] at h; cases h) (by rw [g2]; exact hkC) (by rw [g2]; exact va_assign hcls) rfl rfl hdg fun H1 e z oq => ?_
  refine kk H1 _ (hP.set hD ha ?_ oq) z (hS.put z oq (hD.2 q0 _ ha))
  show H1[a]? = some (vp_cell _ _)
  rw [e, vp_cell_q, vp_cell_q, arrV_store]
  congr 2
  funext q
  by_cases hq : q = i.toNatClampNeg
  · subst hq
    simp [updV, va_up, va_rf]
  · simp [updV, va_up, hq]
end KP
section KR
variable {G : kg_G} {E : State → Array Value → Prop} {q : kg_q} {d pc : Nat} {lv : List (Nat × Value)} {st : List Value} {M : kg_M} {R : kg_R} {n kc ks : Nat} {Post : kg_Post}

theorem kr_putI {ci N i : Nat} {Cn : String} {T : u_T} {ty : Nat → FieldType} {a : Nat} {v : Int32} (j : Nat) (hC : kg_CK ci Cn T N ty) (hlk : Cond.fieldLink q.1.cls i (T j).1 (T j).2.1 (T j).2.2.1 ∈ kg_T) (hkd : (kg_kd.getD ci [])[j]? = some false) (hfin : (T j).2.2.2 = false) (hn : narrow (ty j) (.int v) = .int v) (hfit : fits (ty j) (.int v) = true) (hsh : kg_SH a = .inl ci) (han : a < n) (hd : decode q.2.1 pc = .ok (.putfield i, 3)) (k : kg_Run G E q d (pc + 3) lv st (kg_row M a (upd (M a) j v)) R n kc ks Post) : kg_Run G E q d pc lv (.int v :: .ref (kg_b G + a) :: st) M R n kc ks Post := by
  intro p e Ro s m args below meth c Q mc ms C hE hm1 hm2 hR H locs cells slots ls hH hS hc hs hl
  obtain ⟨hx, hb, hml, hown, hts, hK, hbs, hfr, hlo, hin⟩ := id C
  have hj : j < (kg_kd.getD ci []).length := (List.getElem?_eq_some_iff.mp hkd).1
  refine kg_put (D := G.1) hx hb hts hC.2.1 ty hC.2.2.1 hC.2.2.2.1 hown hK.1 hH.2 (kg_D G M R n) hS a (by rw [kg_w_get G M R han, kg_cell_o G M R hsh]) hC.1 j (by rw [← hC.2.2.2.2.1]; exact hj) (hts _ hlk) (Or.inl hfin) hn hfit (by rw [kg_fs_len]; exact hj) hd (fun H1 locs1 hP1 z1 hS1 => ?_)
  exact k p e Ro s m args below meth c Q mc ms C hE hm1 hm2 hR H1 locs1 cells slots ls ⟨fun h => by rw [z1]; exact hH.1 h, kg_putH hsh hkd han hP1⟩ hS1 hc hs hl
theorem kr_putR {ci N i : Nat} {Cn : String} {T : u_T} {ty : Nat → FieldType} {a v : Nat} (j : Nat) (hC : kg_CK ci Cn T N ty) (hlk : Cond.fieldLink q.1.cls i (T j).1 (T j).2.1 (T j).2.2.1 ∈ kg_T) (hkd : (kg_kd.getD ci [])[j]? = some true) (hfin : (T j).2.2.2 = false ∨ ((T j).2.2.2 = true ∧ q.1.name = "<init>" ∧ (T j).1 = q.1.cls)) (hn : ∀ x : Nat, narrow (ty j) (.ref x) = .ref x) (hfit : ∀ x : Nat, fits (ty j) (.ref x) = true) (hsh : kg_SH a = .inl ci) (han : a < n) (hd : decode q.2.1 pc = .ok (.putfield i, 3)) (k : kg_Run G E q d (pc + 3) lv st M (kg_rrow R a (va_up (R a) j (some v))) n kc ks Post) : kg_Run G E q d pc lv (.ref (kg_b G + v) :: .ref (kg_b G + a) :: st) M R n kc ks Post := by
  intro p e Ro s m args below meth c Q mc ms C hE hm1 hm2 hR H locs cells slots ls hH hS hc hs hl
  obtain ⟨hx, hb, hml, hown, hts, hK, hbs, hfr, hlo, hin⟩ := id C
  have hj : j < (kg_kd.getD ci []).length := (List.getElem?_eq_some_iff.mp hkd).1
  refine kg_put (D := G.1) hx hb hts hC.2.1 ty hC.2.2.1 hC.2.2.2.1 hown hK.1 hH.2 (kg_D G M R n) hS a (by rw [kg_w_get G M R han, kg_cell_o G M R hsh]) hC.1 j (by rw [← hC.2.2.2.2.1]; exact hj) (hts _ hlk) (hfin.elim Or.inl (fun h => Or.inr ⟨h.1, hin h.2.1, h.2.2⟩)) (hn _) (hfit _) (by rw [kg_fs_len]; exact hj) hd (fun H1 locs1 hP1 z1 hS1 => ?_)
  exact k p e Ro s m args below meth c Q mc ms C hE hm1 hm2 hR H1 locs1 cells slots ls ⟨fun h => by rw [z1]; exact hH.1 h, kg_putHR hsh hkd han hP1⟩ hS1 hc hs hl
theorem kr_iald {a N : Nat} {i : Int32} (hsh : kg_SH a = .inr (0, N)) (han : a < n) (hi : vp_in i N) (hd : decode q.2.1 pc = .ok (.iaload, 1)) (k : kg_Run G E q d (pc + 1) lv (.int (M a i.toNatClampNeg) :: st) M R n kc ks Post) : kg_Run G E q d pc lv (.int i :: .ref (kg_b G + a) :: st) M R n kc ks Post := by
  intro p e Ro s m args below meth c Q mc ms C hE hm1 hm2 hR H locs cells slots ls hH hS hc hs hl
  obtain ⟨hx, hb, hml, hown, hts, hK, hbs, hfr, hlo, hin⟩ := id C
  exact va_iald (D := G.1) hx hb hK.1 hH.2 a 0 (by rw [kg_w_get G M R han, kg_cell_i G M R hsh]) rfl hi hd (k p e Ro s m args below meth c Q mc ms C hE hm1 hm2 hR H locs cells slots ls hH hS hc hs hl)
theorem kr_zald {a N : Nat} {i : Int32} (hsh : kg_SH a = .inr (1, N)) (han : a < n) (hi : vp_in i N) (hd : decode q.2.1 pc = .ok (.baload, 1)) (k : kg_Run G E q d (pc + 1) lv (.int (M a i.toNatClampNeg) :: st) M R n kc ks Post) : kg_Run G E q d pc lv (.int i :: .ref (kg_b G + a) :: st) M R n kc ks Post := by
  intro p e Ro s m args below meth c Q mc ms C hE hm1 hm2 hR H locs cells slots ls hH hS hc hs hl
  obtain ⟨hx, hb, hml, hown, hts, hK, hbs, hfr, hlo, hin⟩ := id C
  exact va_zald (D := G.1) hx hb hK.1 hH.2 a 1 (by rw [kg_w_get G M R han, kg_cell_z G M R hsh]) rfl hi hd (k p e Ro s m args below meth c Q mc ms C hE hm1 hm2 hR H locs cells slots ls hH hS hc hs hl)
theorem kr_aald {a N v : Nat} {i : Int32} (hsh : kg_SH a = .inr (2, N)) (han : a < n) (hi : vp_in i N) (hv : R a i.toNatClampNeg = some v) (hd : decode q.2.1 pc = .ok (.aaload, 1)) (k : kg_Run G E q d (pc + 1) lv (.ref (kg_b G + v) :: st) M R n kc ks Post) : kg_Run G E q d pc lv (.int i :: .ref (kg_b G + a) :: st) M R n kc ks Post := by
  intro p e Ro s m args below meth c Q mc ms C hE hm1 hm2 hR H locs cells slots ls hH hS hc hs hl
  obtain ⟨hx, hb, hml, hown, hts, hK, hbs, hfr, hlo, hin⟩ := id C
  refine va_aldq (D := G.1) hx hb hK.1 hH.2 a 2 (by rw [kg_w_get G M R han, kg_cell_r G M R hsh]) rfl hi hd ?_
  rw [hv]
  exact k p e Ro s m args below meth c Q mc ms C hE hm1 hm2 hR H locs cells slots ls hH hS hc hs hl
theorem kr_iast {a N : Nat} {i v : Int32} (hsh : kg_SH a = .inr (0, N)) (han : a < n) (hi : vp_in i N) (hd : decode q.2.1 pc = .ok (.iastore, 1)) (k : kg_Run G E q d (pc + 1) lv st (kg_row M a (upd (M a) i.toNatClampNeg v)) R n kc ks Post) : kg_Run G E q d pc lv (.int v :: .int i :: .ref (kg_b G + a) :: st) M R n kc ks Post := by
  intro p e Ro s m args below meth c Q mc ms C hE hm1 hm2 hR H locs cells slots ls hH hS hc hs hl
  obtain ⟨hx, hb, hml, hown, hts, hK, hbs, hfr, hlo, hin⟩ := id C
  refine kg_iast (D := G.1) hx hb hK.1 hH.2 (kg_D G M R n) hS a 0 (by rw [kg_w_get G M R han, kg_cell_i G M R hsh]) rfl hi hd (fun H1 locs1 hP1 z1 hS1 => ?_)
  rw [kg_w_set G (M' := kg_row M a (upd (M a) i.toNatClampNeg v)) (R' := R) han (fun x hx => kg_row_ne M _ hx) (fun _ _ => rfl) (by rw [kg_cell_i G _ _ hsh, kg_row_eq])] at hP1
  exact k p e Ro s m args below meth c Q mc ms C hE hm1 hm2 hR H1 locs1 cells slots ls ⟨fun h => by rw [z1]; exact hH.1 h, hP1⟩ hS1 hc hs hl
theorem kr_zast {a N : Nat} {i v : Int32} (hsh : kg_SH a = .inr (1, N)) (han : a < n) (hi : vp_in i N) (hv : vp_nar .boolean v = v) (hd : decode q.2.1 pc = .ok (.bastore, 1)) (k : kg_Run G E q d (pc + 1) lv st (kg_row M a (upd (M a) i.toNatClampNeg v)) R n kc ks Post) : kg_Run G E q d pc lv (.int v :: .int i :: .ref (kg_b G + a) :: st) M R n kc ks Post := by
  intro p e Ro s m args below meth c Q mc ms C hE hm1 hm2 hR H locs cells slots ls hH hS hc hs hl
  obtain ⟨hx, hb, hml, hown, hts, hK, hbs, hfr, hlo, hin⟩ := id C
  refine kg_zast (D := G.1) hx hb hK.1 hH.2 (kg_D G M R n) hS a 1 (by rw [kg_w_get G M R han, kg_cell_z G M R hsh]) rfl hi hd (fun H1 locs1 hP1 z1 hS1 => ?_)
  rw [hv, kg_w_set G (M' := kg_row M a (upd (M a) i.toNatClampNeg v)) (R' := R) han (fun x hx => kg_row_ne M _ hx) (fun _ _ => rfl) (by rw [kg_cell_z G _ _ hsh, kg_row_eq])] at hP1
  exact k p e Ro s m args below meth c Q mc ms C hE hm1 hm2 hR H1 locs1 cells slots ls ⟨fun h => by rw [z1]; exact hH.1 h, hP1⟩ hS1 hc hs hl
theorem kr_aast {a b N : Nat} {i : Int32} (hsh : kg_SH a = .inr (2, N)) (han : a < n) (hi : vp_in i N) (hsb : kg_SH b = .inl 5) (hbn : b < n) (hd : decode q.2.1 pc = .ok (.aastore, 1)) (k : kg_Run G E q d (pc + 1) lv st M (kg_rrow R a (va_up (R a) i.toNatClampNeg (some b))) n kc ks Post) : kg_Run G E q d pc lv (.ref (kg_b G + b) :: .int i :: .ref (kg_b G + a) :: st) M R n kc ks Post := by
  intro p e Ro s m args below meth c Q mc ms C hE hm1 hm2 hR H locs cells slots ls hH hS hc hs hl
  obtain ⟨hx, hb, hml, hown, hts, hK, hbs, hfr, hlo, hin⟩ := id C
  refine kg_aast (D := G.1) (r := (RX5, TX5, 9)) hx hb hK.1 hH.2 (kg_D G M R n) hS a 2 b 5 (by rw [kg_w_get G M R han, kg_cell_r G M R hsh]) rfl (by rw [kg_w_get G M R hbn, kg_cell_o G M R hsb]) rfl hi hd (fun H1 locs1 hP1 z1 hS1 => ?_)
  rw [kg_w_set G (M' := M) (R' := kg_rrow R a (va_up (R a) i.toNatClampNeg (some b))) han (fun _ _ => rfl) (fun x hx => kg_rrow_ne R _ hx) ?_] at hP1
  · exact k p e Ro s m args below meth c Q mc ms C hE hm1 hm2 hR H1 locs1 cells slots ls ⟨fun h => by rw [z1]; exact hH.1 h, hP1⟩ hS1 hc hs hl
  · rw [kg_cell_r G _ _ hsh, kg_rrow_eq]
    congr 7
    funext j
    by_cases hj : j = i.toNatClampNeg <;> simp [va_up, hj]
theorem kr_alen {a N : Nat} (hsh : kg_SH a = .inr (0, N)) (han : a < n) (hd : decode q.2.1 pc = .ok (.arraylength, 1)) (k : kg_Run G E q d (pc + 1) lv (.int (nI N) :: st) M R n kc ks Post) : kg_Run G E q d pc lv (.ref (kg_b G + a) :: st) M R n kc ks Post := by
  intro p e Ro s m args below meth c Q mc ms C hE hm1 hm2 hR H locs cells slots ls hH hS hc hs hl
  obtain ⟨hx, hb, hml, hown, hts, hK, hbs, hfr, hlo, hin⟩ := id C
  exact va_alen (D := G.1) (x := (N, .inl (M a))) (ty := .int) (v := nI N) hx hb hK.1 hH.2 a 0 (by rw [kg_w_get G M R han, kg_cell_i G M R hsh]) rfl rfl hd (k p e Ro s m args below meth c Q mc ms C hE hm1 hm2 hR H locs cells slots ls hH hS hc hs hl)
theorem kr_copy {a b N1 N2 i : Nat} {sp dp len : Int32} (hn : ¬ n < kg_all) (hlk : Cond.methodLink q.1.cls i arraycopyName ∈ kg_T) (h1 : kg_SH a = .inr (0, N1)) (h2 : kg_SH b = .inr (0, N2)) (ha : a < n) (hb2 : b < n) (g1 : ¬ sp < 0) (g2 : ¬ dp < 0) (g3 : ¬ len < 0) (g4 : sp.toNatClampNeg + len.toNatClampNeg ≤ N1) (g5 : dp.toNatClampNeg + len.toNatClampNeg ≤ N2) (hst : (st.map fun v => v.category).sum ≤ 8) (hd : decode q.2.1 pc = .ok (.invokestatic i, 3)) (k : kg_Run G E q d (pc + 3) lv st (kg_row M b (va_cpy (M a) (M b) sp.toNatClampNeg dp.toNatClampNeg len.toNatClampNeg)) R n kc ks Post) : kg_Run G E q d pc lv (.int len :: .int dp :: .ref (kg_b G + b) :: .int sp :: .ref (kg_b G + a) :: st) M R n kc ks Post := by
  intro p e Ro s m args below meth c Q mc ms C hE hm1 hm2 hR H locs cells slots ls hH hS hc hs hl
  obtain ⟨hx, hb, hml, hown, hts, hK, hbs, hfr, hlo, hin⟩ := id C
  refine va_copyi (D := G.1) (ty := .int) hx hb (by rw [hml]; exact hl.1.symm) hown (hts _ hlk) (hts _ kg_tNat) (hts _ kg_tStat) (hts _ kg_tSys) hK.1 hH.2 (kg_D G M R n) hS a b 0 0 (by rw [kg_w_get G M R ha, kg_cell_i G M R h1]) (by rw [kg_w_get G M R hb2, kg_cell_i G M R h2]) rfl rfl rfl g1 g2 g3 g4 g5 (fun _ _ => rfl) (by omega) ?_ hd (fun H1 locs1 hP1 hD1 hS1 => ?_)
  · have hw : nativeFrameWords "java/lang/System" "arraycopy" 5 + 11 ≤ 50 := by decide +kernel
    omega
  rw [kg_w_set G (M' := kg_row M b (va_cpy (M a) (M b) sp.toNatClampNeg dp.toNatClampNeg len.toNatClampNeg)) (R' := R) hb2 (fun x hx => kg_row_ne M _ hx) (fun _ _ => rfl) (by rw [kg_cell_i G _ _ h2, kg_row_eq])] at hP1
  exact k p e Ro s m args below meth c Q mc ms C hE hm1 hm2 hR H1 locs1 cells slots ls ⟨fun h => absurd h hn, hP1⟩ hS1 hc hs hl
theorem kr_objInit {a i : Nat} (hlk : Cond.methodLink q.1.cls i Lib.objectInit ∈ kg_T) (hst : (st.map fun v => v.category).sum ≤ 8) (hd : decode q.2.1 pc = .ok (.invokespecial i, 3)) (k : kg_Run G E q d (pc + 3) lv st M R n kc ks Post) : kg_Run G E q d pc lv (.ref a :: st) M R n kc ks Post := by
  intro p e Ro s m args below meth c Q mc ms C hE hm1 hm2 hR H locs cells slots ls hH hS hc hs hl
  obtain ⟨hx, hb, hml, hown, hts, hK, hbs, hfr, hlo, hin⟩ := id C
  refine W.objInit hx hb hown (hts _ hlk) (hts _ kg_tOi) (hts _ kg_tOc) rfl (by rw [hml]; exact hl.1) rfl hd (by omega) ?_ (k p e Ro s m args below meth c Q mc ms C hE hm1 hm2 hR H locs cells slots ls hH hS hc hs hl)
  show 2 * 0 + (st.map fun v => v.category).sum + 12 ≤ Ro.locals
  omega
theorem kr_new {ci N i : Nat} {Cn : String} {T : u_T} {ty : Nat → FieldType} (hC : kg_CK ci Cn T N ty) (hlk : Cond.classLink q.1.cls i Cn ∈ kg_T) (hsh : kg_SH n = .inl ci) (hn : n < kg_all) (hd : decode q.2.1 pc = .ok (.new i, 3)) (k : kg_Run G E q d (pc + 3) lv (.ref (kg_b G + n) :: st) (kg_row M n (fun _ => 0)) (kg_rrow R n (fun _ => none)) (n + 1) kc ks Post) : kg_Run G E q d pc lv st M R n (kc + 1) (ks + N) Post := by
  intro p e Ro s m args below meth c Q mc ms C hE hm1 hm2 hR H locs cells slots ls hH hS hc hs hl
  obtain ⟨hx, hb, hml, hown, hts, hK, hbs, hfr, hlo, hin⟩ := id C
  obtain ⟨k1, k2, k3, k4, k5, k6, k7, k8⟩ := hC
  have hKn := hK.1.1 ci _ k1
  have hsz := hH.1 hn
  refine W.newcK hx hb hown (hts _ hlk) (hts _ k6) (hts _ k7) rfl hd (by omega) (by omega) hKn.2.1 rfl fun H1 kC hkC e1 z1 o1 => ?_
  have hk : ∀ (k : Nat) (x : Nat × va_E), (kg_w G M R n)[k]? = some x → H1[x.1]? = H[x.1]? := fun k x hx => o1 x.1 ((hH.2 k x hx).lt)
  rw [hsz] at z1 e1 ⊢
  refine k p e Ro s m args below meth c Q mc ms C hE hm1 hm2 hR H1 locs (cells + 1) (slots + N) ls ⟨fun _ => by rw [z1]; omega, ?_⟩ ⟨by rw [z1]; have := hS.1; omega, fun x h1 h2 => (o1 x (by have := hS.1; omega)).trans (hS.2.1 x h1 h2), hS.2.2⟩ (by omega) (by omega) hl
  rw [← kg_w_push G (M := M) (R := R) (fun x hx => kg_row_ne M _ hx) (fun x hx => kg_rrow_ne R _ hx) (kg_cell_o G _ _ hsh)]
  refine (hH.2.kept hk).app (fun k x hx => ?_)
  have hz : k < 1 := (List.getElem?_eq_some_iff.mp hx).1
  rw [show k = 0 by omega] at hx
  cases hx
  refine ⟨_, k1, (u_born ty hts k2 hKn hkC e1 k3).to (fun j hj => ?_)⟩
  rw [k8 j hj]
  have hjl : j < (kg_kd.getD ci []).length := by rw [k5]; exact hj
  have hg : (kg_kd.getD ci [])[j]? = some ((kg_kd.getD ci [])[j]) := List.getElem?_eq_getElem hjl
  have hfs : (kg_fs (kg_b G) (kg_row M n (fun _ => 0)) (kg_rrow R n (fun _ => none)) n (kg_kd.getD ci []) 0)[j]? = some (if (kg_kd.getD ci [])[j]? = some true then Value.null else Value.int 0) := by
    rw [kg_fs_get, hg, kg_row_eq, kg_rrow_eq]
    cases (kg_kd.getD ci [])[j] <;> simp [va_rf]
  show _ = ((kg_fs (kg_b G) (kg_row M n (fun _ => 0)) (kg_rrow R n (fun _ => none)) n (kg_kd.getD ci []) 0)[j]?).getD .null
  rw [hfs]
  rfl
theorem kr_newi {N : Nat} {len : Int32} (hsh : kg_SH n = .inr (0, N)) (hn : n < kg_all) (h0 : ¬ len < 0) (hN : len.toNatClampNeg = N) (hB : N ≤ 20000) (hd : decode q.2.1 pc = .ok (.newarray .int, 2)) (k : kg_Run G E q d (pc + 2) lv (.ref (kg_b G + n) :: st) (kg_row M n (fun _ => 0)) (kg_rrow R n (fun _ => none)) (n + 1) kc ks Post) : kg_Run G E q d pc lv (.int len :: st) M R n (kc + 1) (ks + N) Post := by
  intro p e Ro s m args below meth c Q mc ms C hE hm1 hm2 hR H locs cells slots ls hH hS hc hs hl
  obtain ⟨hx, hb, hml, hown, hts, hK, hbs, hfr, hlo, hin⟩ := id C
  have hsz := hH.1 hn
  refine va_newaK hx hb (hts _ kg_tArr0) rfl hd rfl h0 hN ?_ (by omega) (by omega) hsz fun H1 cA e1 z1 o1 hAr hNm => ?_
  · have : componentBytes (newarray.typeOf .int) ≤ 8 := by decide +kernel
    exact Nat.le_trans (Nat.mul_le_mul hB this) (by decide)
  have hcA : cA = G.2.1.1 := Option.some.inj (hNm.symm.trans ((hK.1.2 0 _ rfl).2))
  subst hcA
  have hk : ∀ (k : Nat) (x : Nat × va_E), (kg_w G M R n)[k]? = some x → H1[x.1]? = H[x.1]? := fun k x hx => o1 x.1 (by have := (hH.2 k x hx).lt; omega)
  refine k p e Ro s m args below meth c Q mc ms C hE hm1 hm2 hR H1 locs (cells + 1) (slots + N) ls ⟨fun _ => by rw [z1]; omega, ?_⟩ ⟨by rw [z1]; have := hS.1; omega, fun x h1 h2 => (o1 x (by have := hS.1; omega)).trans (hS.2.1 x h1 h2), hS.2.2⟩ (by omega) (by omega) hl
  rw [← kg_w_push G (M := M) (R := R) (fun x hx => kg_row_ne M _ hx) (fun x hx => kg_rrow_ne R _ hx) (kg_cell_i G _ _ hsh)]
  refine (hH.2.kept hk).app (fun k x hx => ?_)
  have hz : k < 1 := (List.getElem?_eq_some_iff.mp hx).1
  rw [show k = 0 by omega] at hx
  cases hx
  show H1[kg_b G + n]? = some (vp_cell _ _)
  rw [e1, kg_row_eq]
  rfl
theorem kr_newz {N : Nat} {len : Int32} (hsh : kg_SH n = .inr (1, N)) (hn : n < kg_all) (h0 : ¬ len < 0) (hN : len.toNatClampNeg = N) (hB : N ≤ 20000) (hd : decode q.2.1 pc = .ok (.newarray .boolean, 2)) (k : kg_Run G E q d (pc + 2) lv (.ref (kg_b G + n) :: st) (kg_row M n (fun _ => 0)) (kg_rrow R n (fun _ => none)) (n + 1) kc ks Post) : kg_Run G E q d pc lv (.int len :: st) M R n (kc + 1) (ks + N) Post := by
  intro p e Ro s m args below meth c Q mc ms C hE hm1 hm2 hR H locs cells slots ls hH hS hc hs hl
  obtain ⟨hx, hb, hml, hown, hts, hK, hbs, hfr, hlo, hin⟩ := id C
  have hsz := hH.1 hn
  refine va_newaK hx hb (hts _ kg_tArr1) rfl hd rfl h0 hN ?_ (by omega) (by omega) hsz fun H1 cA e1 z1 o1 hAr hNm => ?_
  · have : componentBytes (newarray.typeOf .boolean) ≤ 8 := by decide +kernel
    exact Nat.le_trans (Nat.mul_le_mul hB this) (by decide)
  have hcA : cA = G.2.1.2.1 := Option.some.inj (hNm.symm.trans ((hK.1.2 1 _ rfl).2))
  subst hcA
  have hk : ∀ (k : Nat) (x : Nat × va_E), (kg_w G M R n)[k]? = some x → H1[x.1]? = H[x.1]? := fun k x hx => o1 x.1 (by have := (hH.2 k x hx).lt; omega)
  refine k p e Ro s m args below meth c Q mc ms C hE hm1 hm2 hR H1 locs (cells + 1) (slots + N) ls ⟨fun _ => by rw [z1]; omega, ?_⟩ ⟨by rw [z1]; have := hS.1; omega, fun x h1 h2 => (o1 x (by have := hS.1; omega)).trans (hS.2.1 x h1 h2), hS.2.2⟩ (by omega) (by omega) hl
  rw [← kg_w_push G (M := M) (R := R) (fun x hx => kg_row_ne M _ hx) (fun x hx => kg_rrow_ne R _ hx) (kg_cell_z G _ _ hsh)]
  refine (hH.2.kept hk).app (fun k x hx => ?_)
  have hz : k < 1 := (List.getElem?_eq_some_iff.mp hx).1
  rw [show k = 0 by omega] at hx
  cases hx
  show H1[kg_b G + n]? = some (vp_cell _ _)
  rw [e1, kg_row_eq]
  rfl
theorem kr_newa {N i : Nat} {len : Int32} (hlk : Cond.classLink q.1.cls i "KissGates$State" ∈ kg_T) (hsh : kg_SH n = .inr (2, N)) (hn : n < kg_all) (h0 : ¬ len < 0) (hN : len.toNatClampNeg = N) (hB : N ≤ 20000) (hd : decode q.2.1 pc = .ok (.anewarray i, 3)) (k : kg_Run G E q d (pc + 3) lv (.ref (kg_b G + n) :: st) (kg_row M n (fun _ => 0)) (kg_rrow R n (fun _ => none)) (n + 1) kc ks Post) : kg_Run G E q d pc lv (.int len :: st) M R n (kc + 1) (ks + N) Post := by
  intro p e Ro s m args below meth c Q mc ms C hE hm1 hm2 hR H locs cells slots ls hH hS hc hs hl
  obtain ⟨hx, hb, hml, hown, hts, hK, hbs, hfr, hlo, hin⟩ := id C
  have hsz := hH.1 hn
  subst hN
  refine W.anew hx hb hown (hts _ hlk) (va_AO.use hK.2.2) rfl hd rfl h0 (by omega) (by omega) (by omega) fun cA kA comp f1 f2 f3 f4 => ?_
  obtain ⟨kA2, comp2, j1, j2, j3, j4⟩ := (hK.1.2 2 _ rfl).2
  have hcA : cA = G.2.1.2.2 := Option.some.inj (f1.symm.trans j4)
  subst hcA
  generalize hH1 : H.push ({ cls := G.2.1.2.2, slots := Array.replicate len.toNatClampNeg .null, vm := .none } : Cell) = H1
  have z1 : H1.size = H.size + 1 := by rw [← hH1, Array.size_push]
  have e1 : H1[H.size]? = some (arrV G.2.1.2.2 len.toNatClampNeg (fun _ => .null)) := by rw [← hH1, Array.getElem?_push_size, ← arrV_new]
  have o1 : ∀ q : Nat, q < H.size → H1[q]? = H[q]? := fun q hq => by rw [← hH1, Array.getElem?_push, if_neg (Nat.ne_of_lt hq)]
  rw [hsz] at z1 e1 ⊢
  have hk : ∀ (k : Nat) (x : Nat × va_E), (kg_w G M R n)[k]? = some x → H1[x.1]? = H[x.1]? := fun k x hx => o1 x.1 ((hH.2 k x hx).lt)
  refine k p e Ro s m args below meth c Q mc ms C hE hm1 hm2 hR H1 locs (cells + 1) (slots + len.toNatClampNeg) ls ⟨fun _ => by rw [z1]; omega, ?_⟩ ⟨by rw [z1]; have := hS.1; omega, fun x h1 h2 => (o1 x (by have := hS.1; omega)).trans (hS.2.1 x h1 h2), hS.2.2⟩ (by omega) (by omega) hl
  rw [← kg_w_push G (M := M) (R := R) (fun x hx => kg_row_ne M _ hx) (fun x hx => kg_rrow_ne R _ hx) (kg_cell_r G _ _ hsh)]
  refine (hH.2.kept hk).app (fun k x hx => ?_)
  have hz : k < 1 := (List.getElem?_eq_some_iff.mp hx).1
  rw [show k = 0 by omega] at hx
  cases hx
  show H1[kg_b G + n]? = some (vp_cell _ _)
  rw [e1, kg_rrow_eq]
  rfl
end KR
/-! ===== calls: a method's Run from its entry is its contract ===== -/
def kg_Qc (G : kg_G) (Post : kg_Post) : Array Value → State → Outcome → State → Prop := fun _ st oc t => (∃ (r : Option Int32) (M' : kg_M) (R' : kg_R) (n' : Nat), oc = .returned (r.map Value.int) ∧ Post r M' R' n' ∧ kg_H G M' R' n' t.heap) ∧ va_F (kg_A G) st t
/-- the answer is of the method's type -/
def kg_rt (y : kg_q) (Post : kg_Post) : Prop := (∀ (x : Int32) (M : kg_M) (R : kg_R) (n : Nat), Post (some x) M R n → ∃ ty, y.2.2.2 = some ty ∧ narrow ty (.int x) = .int x) ∧ ∀ (M : kg_M) (R : kg_R) (n : Nat), Post none M R n → y.2.2.2 = none
theorem kg_met {G : kg_G} {y : kg_q} {d n kc ks : Nat} {av : List Value} {M : kg_M} {R : kg_R} {Post : kg_Post} (hp : plainName y.1.cls = true) (hav : (lg_sl av).length ≤ y.2.2.1) (hrt : kg_rt y Post) (h : kg_Run G kg_E0 y d 0 (lv_args 0 av) [] M R n kc ks Post) :
    Met G.2.2.2 y.1 (Cond.code y.1 y.2.1 y.2.2.1 y.2.2.2 :: kg_T) ({ frames := d + 1, cells := kc, slots := ks, locals := 60 * d + 60 }) (va_Pc av (fun U => kg_b G ≤ U.heap.size ∧ kg_H G M R n U.heap ∧ kg_KK G U)) (kg_Qc G Post) kc ks (kg_A G) := by
  refine Met.ofW (cc := y.2.1) (maxL := y.2.2.1) (ret := y.2.2.2) hp rfl ?_
  intro p e s m args below meth c s₁ B hml hv
  obtain ⟨rfl, hbs, hH, hK⟩ := hv
  have hts := atoms_spec (ws := Cond.code y.1 y.2.1 y.2.2.1 y.2.2.2 :: kg_T) B.pre
  have hl := lv_entry av (n := y.2.2.1) hav
  rw [lg_entry_eq]
  have hlocks := B.notSynchronized
  refine h p e _ s m _ below meth c _ kc ks ⟨B.exec, B.bytes, hml, findClass_of_methodNamed B.named, fun w hw => hts w (List.mem_cons_of_mem _ hw), hK, hbs, Nat.le_refl _, Nat.le_refl _, fun hn => (name_of_methodNamed B.named B.method).1.trans hn⟩ trivial (Nat.le_refl _) (Nat.le_refl _) ⟨?_, ?_⟩ s.heap [] 0 0 _ hH va_S.rf (by omega) (by omega) hl
  · intro pc ls r M' R' n' H locs cells slots hd hP hH' hS hc hs
    obtain ⟨ty, h1, h2⟩ := hrt.1 _ _ _ _ hP
    refine W.widen hc hs ?_
    exact W.zret B.exec B.bytes (B.returns.trans h1) h2 (fun t ht hW => ⟨⟨some r, M', R', n', rfl, hP, by rw [ht]; exact hH'⟩, hS.F ht⟩) hS.2.2 hd hlocks
  · intro pc ls M' R' n' H locs cells slots hd hP hH' hS hc hs
    refine W.widen hc hs ?_
    exact W.vret B.exec B.bytes (B.returns.trans (hrt.2 _ _ _ hP)) (fun t ht hW => ⟨⟨none, M', R', n', rfl, hP, by rw [ht]; exact hH'⟩, hS.F ht⟩) hS.2.2 hd hlocks
theorem kg_call {G : kg_G} {p : Program} {e : Env} {Ro : Room} {s : State} {m : MethodId} {args : Array Value} {below : List Frame} {meth : Method} {c : Code} {H H0 : Heap} {locs : List Loc} {cells slots mc ms pc : Nat} {Q : State → Prop} {ls : Array Slot} {rest st0 : List Value} {a : Array Value} {Post : kg_Post}
    (hr : va_Run p G.2.2.2 e Ro s m args below meth c H locs cells slots mc ms (F0 m pc ls st0) rest (kg_Qc G Post a) (kg_A G)) (hS : va_S (kg_A G) H0 H locs)
    (kk : ∀ (r : Option Int32) (M' : kg_M) (R' : kg_R) (n' : Nat) (H1 : Heap) (locs1 : List Loc), Post r M' R' n' → kg_H G M' R' n' H1 → va_S (kg_A G) H0 H1 locs1 → W p G.2.2.2 e Ro s m args below meth c H1 locs1 (cells + mc) (slots + ms) Q (F0 m (pc + 3) ls ((r.map Value.int).toList ++ rest))) : W p G.2.2.2 e Ro s m args below meth c H locs cells slots Q (F0 m pc ls st0) := by
  intro T hT X
  obtain ⟨v, st₀, t, T', L, h0, X', hL, e1, e2, ⟨⟨r, M', R', n', hv, hp, hH'⟩, hz, hk⟩, st⟩ := hr T hT X
  have hv2 : v = r.map Value.int := Outcome.returned.inj hv
  subst hv2
  rw [h0] at hz hk
  obtain ⟨t2, a1, b1⟩ := kk r M' R' n' T'.heap (locs ++ L) hp (by rw [e1]; exact hH')
    ⟨Nat.le_trans hS.1 (by rw [e1]; exact hz), fun q h1 h2 => by rw [e1, hk q (Nat.lt_of_lt_of_le h1 hS.1) h2]; exact hS.2.1 q h1 h2, fun q hq => by
      rcases List.mem_append.mp hq with h | h
      · exact hS.2.2 q h
      · exact hL q h⟩ T' rfl X'
  exact ⟨t2, st t2 a1, b1⟩
/-- what is fixed of a method -/
def kg_MB (y : kg_q) (N : Nat) : Prop := Cond.code y.1 y.2.1 y.2.2.1 y.2.2.2 ∈ kg_T ∧ Cond.initialized y.1.cls ∈ kg_T ∧ (y.1.cls ≠ "java/lang/invoke/MethodHandle" ∧ y.1.cls ≠ "java/lang/invoke/VarHandle" ∧ (parseMethodDescriptor y.1.desc).map (fun d => d.parameters.length) = some N) ∧ plainName y.1.cls = true ∧ y.2.2.1 ≤ 40
def kg_MV (y : kg_q) (N : Nat) : Prop := kg_MB y N ∧ Cond.instanceMethod y.1 ∈ kg_T ∧ Cond.selects y.1.cls y.1 y.1 ∈ kg_T
def kg_MS (y : kg_q) (N : Nat) : Prop := kg_MB y N ∧ Cond.static y.1 ∈ kg_T
def kg_MI (y : kg_q) (N : Nat) : Prop := kg_MB y N ∧ Cond.instanceMethod y.1 ∈ kg_T ∧ y.1.name = "<init>" ∧ y.2.2.2 = none
theorem kg_blind {G : kg_G} {M : kg_M} {R : kg_R} {n : Nat} {av : List Value} : FrameBlind (va_Pc av (fun U => kg_b G ≤ U.heap.size ∧ kg_H G M R n U.heap ∧ kg_KK G U)) := fun a U g mk h => ⟨h.1, h.2.1, h.2.2.1, kg_KK.same h.2.2.2 rfl⟩
section KC
variable {G : kg_G} {E : State → Array Value → Prop} {q : kg_q} {d pc : Nat} {lv : List (Nat × Value)} {st : List Value} {M : kg_M} {R : kg_R} {n kc ks : Nat} {Post : kg_Post}
theorem kr_callV {y : kg_q} {N d' i a ci kc' ks' : Nat} {Post' : kg_Post} (As rest : List Value) (hm : kg_MV y N) (hlk : Cond.methodLink q.1.cls i y.1 ∈ kg_T) (hsh : kg_SH a = .inl ci) (hci : (vwCl[ci]?).map (fun w => w.1) = some y.1.cls) (han : a < n) (hd : decode q.2.1 pc = .ok (.invokevirtual i, 3)) (hrt : kg_rt y Post') (hrun : kg_Run G kg_E0 y d' 0 (lv_args 0 (.ref (kg_b G + a) :: As)) [] M R n kc' ks' Post') (k : ∀ (r : Option Int32) (M' : kg_M) (R' : kg_R) (n' : Nat), Post' r M' R' n' → kg_Run G E q d (pc + 3) lv ((r.map Value.int).toList ++ rest) M' R' n' kc ks Post) (hst : st = As.reverse ++ .ref (kg_b G + a) :: rest := by rfl) (hd' : d' + 1 ≤ d := by decide) (hlen : As.length = N := by rfl) (hav : (lg_sl (.ref (kg_b G + a) :: As)).length ≤ y.2.2.1 := by decide) (hrest : (rest.map fun v => v.category).sum ≤ 8 := by decide) : kg_Run G E q d pc lv st M R n (kc + kc') (ks + ks') Post := by
  intro p e Ro s m args below meth c Q mc ms C hE hm1 hm2 hR H locs cells slots ls hH hS hc hs hl
  obtain ⟨hx, hb, hml, hown, hts, hK, hbs, hfr, hlo, hin⟩ := id C
  subst hst
  have hM := kg_met (d := d') hm.1.2.2.2.1 hav hrt hrun
  have hmx := hm.1.2.2.2.2
  obtain ⟨cq, hc1, hc2⟩ := Option.map_eq_some_iff.mp hci
  have hrv := va_recv hK.1 hH.2 hc1 (by rw [kg_w_get G M R han, kg_cell_o G M R hsh])
  rw [hc2] at hrv
  exact kg_call (va_runV (C := y.1.cls) (As := As) (rest := rest) ⟨hx, hb, hml, hown, hts⟩ hM ⟨callB_of N hts (kg_good hm.1.1) rfl rfl rfl (hts _ hm.1.2.1) (hts _ hlk) hm.1.2.2.1 ⟨by show d' + 1 + 1 ≤ Ro.frames; omega, by show 8 + (y.2.2.1 + 11) + (60 * d' + 60) ≤ Ro.locals; omega⟩, hts _ hm.2.1, hts _ hm.2.2⟩ ⟨kg_blind, hrv, fun U hU hW => ⟨rfl, by rw [hU]; exact Nat.le_trans hbs hS.1, by rw [hU]; exact hH, kg_KK.warm hK hW⟩⟩ rfl hlen hl.1 rfl (lv_room hrest) hd ⟨by omega, by omega⟩) hS (fun r M' R' n' H1 locs1 hp hH1 hS1 => k r M' R' n' hp p e Ro s m args below meth c Q mc ms C hE hm1 hm2 hR H1 locs1 (cells + kc') (slots + ks') ls hH1 hS1 (by omega) (by omega) hl)
theorem kr_callS {y : kg_q} {N d' i kc' ks' : Nat} {Post' : kg_Post} (As rest : List Value) (hm : kg_MS y N) (hlk : Cond.methodLink q.1.cls i y.1 ∈ kg_T) (hd : decode q.2.1 pc = .ok (.invokestatic i, 3)) (hrt : kg_rt y Post') (hrun : kg_Run G kg_E0 y d' 0 (lv_args 0 As) [] M R n kc' ks' Post') (k : ∀ (r : Option Int32) (M' : kg_M) (R' : kg_R) (n' : Nat), Post' r M' R' n' → kg_Run G E q d (pc + 3) lv ((r.map Value.int).toList ++ rest) M' R' n' kc ks Post) (hst : st = As.reverse ++ rest := by rfl) (hd' : d' + 1 ≤ d := by decide) (hlen : As.length = N := by rfl) (hav : (lg_sl As).length ≤ y.2.2.1 := by decide) (hrest : (rest.map fun v => v.category).sum ≤ 8 := by decide) : kg_Run G E q d pc lv st M R n (kc + kc') (ks + ks') Post := by
  intro p e Ro s m args below meth c Q mc ms C hE hm1 hm2 hR H locs cells slots ls hH hS hc hs hl
  obtain ⟨hx, hb, hml, hown, hts, hK, hbs, hfr, hlo, hin⟩ := id C
  subst hst
  have hM := kg_met (d := d') hm.1.2.2.2.1 hav hrt hrun
  have hmx := hm.1.2.2.2.2
  exact kg_call (va_runS (As := As) (rest := rest) ⟨hx, hb, hml, hown, hts⟩ hM ⟨callB_of N hts (kg_good hm.1.1) rfl rfl rfl (hts _ hm.1.2.1) (hts _ hlk) hm.1.2.2.1 ⟨by show d' + 1 + 1 ≤ Ro.frames; omega, by show 8 + (y.2.2.1 + 11) + (60 * d' + 60) ≤ Ro.locals; omega⟩, hts _ hm.2⟩ ⟨kg_blind, fun U hU hW => ⟨rfl, by rw [hU]; exact Nat.le_trans hbs hS.1, by rw [hU]; exact hH, kg_KK.warm hK hW⟩⟩ rfl hlen hl.1 rfl (lv_room hrest) hd ⟨by omega, by omega⟩) hS (fun r M' R' n' H1 locs1 hp hH1 hS1 => k r M' R' n' hp p e Ro s m args below meth c Q mc ms C hE hm1 hm2 hR H1 locs1 (cells + kc') (slots + ks') ls hH1 hS1 (by omega) (by omega) hl)
theorem kr_callI {y : kg_q} {N d' i a kc' ks' : Nat} {Post' : kg_Post} (As rest : List Value) (hm : kg_MI y N) (hlk : Cond.methodLink q.1.cls i y.1 ∈ kg_T) (hd : decode q.2.1 pc = .ok (.invokespecial i, 3)) (hrt : kg_rt y Post') (hrun : kg_Run G kg_E0 y d' 0 (lv_args 0 (.ref (kg_b G + a) :: As)) [] M R n kc' ks' Post') (k : ∀ (r : Option Int32) (M' : kg_M) (R' : kg_R) (n' : Nat), Post' r M' R' n' → kg_Run G E q d (pc + 3) lv ((r.map Value.int).toList ++ rest) M' R' n' kc ks Post) (hst : st = As.reverse ++ .ref (kg_b G + a) :: rest := by rfl) (hd' : d' + 1 ≤ d := by decide) (hlen : As.length = N := by rfl) (hav : (lg_sl (.ref (kg_b G + a) :: As)).length ≤ y.2.2.1 := by decide) (hrest : (rest.map fun v => v.category).sum ≤ 8 := by decide) : kg_Run G E q d pc lv st M R n (kc + kc') (ks + ks') Post := by
  intro p e Ro s m args below meth c Q mc ms C hE hm1 hm2 hR H locs cells slots ls hH hS hc hs hl
  obtain ⟨hx, hb, hml, hown, hts, hK, hbs, hfr, hlo, hin⟩ := id C
  subst hst
  have hyr := hm.2.2.2
  have hgd := kg_good hm.1.1
  have hM := kg_met (d := d') hm.1.2.2.2.1 hav hrt hrun
  rw [hyr] at hM hgd
  have hmx := hm.1.2.2.2.2
  exact kg_call (va_runI (As := As) (rest := rest) ⟨hx, hb, hml, hown, hts⟩ hM ⟨callB_of (ret := none) N hts hgd rfl rfl rfl (hts _ hm.1.2.1) (hts _ hlk) hm.1.2.2.1 ⟨by show d' + 1 + 1 ≤ Ro.frames; omega, by show 8 + (y.2.2.1 + 11) + (60 * d' + 60) ≤ Ro.locals; omega⟩, hm.2.2.1, hts _ hm.2.1⟩ ⟨kg_blind, fun U hU hW => ⟨rfl, by rw [hU]; exact Nat.le_trans hbs hS.1, by rw [hU]; exact hH, kg_KK.warm hK hW⟩⟩ rfl hlen hl.1 rfl (lv_room hrest) hd ⟨by omega, by omega⟩) hS (fun r M' R' n' H1 locs1 hp hH1 hS1 => k r M' R' n' hp p e Ro s m args below meth c Q mc ms C hE hm1 hm2 hR H1 locs1 (cells + kc') (slots + ks') ls hH1 hS1 (by omega) (by omega) hl)
theorem kr_callIN {y : kg_q} {host : String} {N d' i a kc' ks' : Nat} {Post' : kg_Post} (As rest : List Value) (hm : kg_MI y N) (hlk : (q.1.cls, i, y.1, host) ∈ kg_nest) (hd : decode q.2.1 pc = .ok (.invokespecial i, 3)) (hrt : kg_rt y Post') (hrun : kg_Run G kg_E0 y d' 0 (lv_args 0 (.ref (kg_b G + a) :: As)) [] M R n kc' ks' Post') (k : ∀ (r : Option Int32) (M' : kg_M) (R' : kg_R) (n' : Nat), Post' r M' R' n' → kg_Run G E q d (pc + 3) lv ((r.map Value.int).toList ++ rest) M' R' n' kc ks Post) (hst : st = As.reverse ++ .ref (kg_b G + a) :: rest := by rfl) (hd' : d' + 1 ≤ d := by decide) (hlen : As.length = N := by rfl) (hav : (lg_sl (.ref (kg_b G + a) :: As)).length ≤ y.2.2.1 := by decide) (hrest : (rest.map fun v => v.category).sum ≤ 8 := by decide) : kg_Run G E q d pc lv st M R n (kc + kc') (ks + ks') Post := by
  intro p e Ro s m args below meth c Q mc ms C hE hm1 hm2 hR H locs cells slots ls hH hS hc hs hl
  obtain ⟨hx, hb, hml, hown, hts, hK, hbs, hfr, hlo, hin⟩ := id C
  subst hst
  have hyr := hm.2.2.2
  have hgd := kg_good hm.1.1
  have hM := kg_met (d := d') hm.1.2.2.2.1 hav hrt hrun
  rw [hyr] at hM hgd
  have hmx := hm.1.2.2.2.2
  exact kg_call (va_runIN (As := As) (rest := rest) ⟨hx, hb, hml, hown, hts⟩ hM ⟨va_cnB (ret := none) N hts hgd rfl rfl rfl (hK.2.1 (q.1.cls, i, y.1, host) hlk) (hts _ hm.1.2.1) hm.1.2.2.1 ⟨by show d' + 1 + 1 ≤ Ro.frames; omega, by show 8 + (y.2.2.1 + 11) + (60 * d' + 60) ≤ Ro.locals; omega⟩, hm.2.2.1, hts _ hm.2.1⟩ ⟨kg_blind, fun U hU hW => ⟨rfl, by rw [hU]; exact Nat.le_trans hbs hS.1, by rw [hU]; exact hH, kg_KK.warm hK hW⟩⟩ rfl hlen hl.1 rfl (lv_room hrest) hd ⟨by omega, by omega⟩) hS (fun r M' R' n' H1 locs1 hp hH1 hS1 => k r M' R' n' hp p e Ro s m args below meth c Q mc ms C hE hm1 hm2 hR H1 locs1 (cells + kc') (slots + ks') ls hH1 hS1 (by omega) (by omega) hl)
end KC
end
section
theorem inX0 : ∀ w ∈ u_ws RX0 TX0 7, w ∈ kg_T := by
  have h : (u_ws RX0 TX0 7).all (fun w => decide (w ∈ lw_tbl) && goodWord w) = true := by decide +kernel
  intro w hw
  have h1 := List.all_eq_true.mp h w hw
  simp only [Bool.and_eq_true, decide_eq_true_eq] at h1
  exact List.mem_filter.mpr h1
theorem ckX0 : kg_CK 0 RX0 TX0 7 tyX0 := ⟨rfl, inX0, tyX0_ok, nmX0, rfl, kg_inT 247 (by decide +kernel) rfl, kg_inT 73 (by decide +kernel) rfl, by decide +kernel⟩
theorem inX1 : ∀ w ∈ u_ws RX1 TX1 2, w ∈ kg_T := by
  have h : (u_ws RX1 TX1 2).all (fun w => decide (w ∈ lw_tbl) && goodWord w) = true := by decide +kernel
  intro w hw
  have h1 := List.all_eq_true.mp h w hw
  simp only [Bool.and_eq_true, decide_eq_true_eq] at h1
  exact List.mem_filter.mpr h1
theorem ckX1 : kg_CK 1 RX1 TX1 2 tyX1 := ⟨rfl, inX1, tyX1_ok, nmX1, rfl, kg_inT 234 (by decide +kernel) rfl, kg_inT 72 (by decide +kernel) rfl, by decide +kernel⟩
theorem inX2 : ∀ w ∈ u_ws RX2 TX2 6, w ∈ kg_T := by
  have h : (u_ws RX2 TX2 6).all (fun w => decide (w ∈ lw_tbl) && goodWord w) = true := by decide +kernel
  intro w hw
  have h1 := List.all_eq_true.mp h w hw
  simp only [Bool.and_eq_true, decide_eq_true_eq] at h1
  exact List.mem_filter.mpr h1
theorem ckX2 : kg_CK 2 RX2 TX2 6 tyX2 := ⟨rfl, inX2, tyX2_ok, nmX2, rfl, kg_inT 179 (by decide +kernel) rfl, kg_inT 70 (by decide +kernel) rfl, by decide +kernel⟩
theorem inX3 : ∀ w ∈ u_ws RX3 TX3 6, w ∈ kg_T := by
  have h : (u_ws RX3 TX3 6).all (fun w => decide (w ∈ lw_tbl) && goodWord w) = true := by decide +kernel
  intro w hw
  have h1 := List.all_eq_true.mp h w hw
  simp only [Bool.and_eq_true, decide_eq_true_eq] at h1
  exact List.mem_filter.mpr h1
theorem ckX3 : kg_CK 3 RX3 TX3 6 tyX3 := ⟨rfl, inX3, tyX3_ok, nmX3, rfl, kg_inT 206 (by decide +kernel) rfl, kg_inT 71 (by decide +kernel) rfl, by decide +kernel⟩
theorem inX4 : ∀ w ∈ u_ws RX4 TX4 3, w ∈ kg_T := by
  have h : (u_ws RX4 TX4 3).all (fun w => decide (w ∈ lw_tbl) && goodWord w) = true := by decide +kernel
  intro w hw
  have h1 := List.all_eq_true.mp h w hw
  simp only [Bool.and_eq_true, decide_eq_true_eq] at h1
  exact List.mem_filter.mpr h1
theorem ckX4 : kg_CK 4 RX4 TX4 3 tyX4 := ⟨rfl, inX4, tyX4_ok, nmX4, rfl, kg_inT 159 (by decide +kernel) rfl, kg_inT 69 (by decide +kernel) rfl, by decide +kernel⟩
theorem inX5 : ∀ w ∈ u_ws RX5 TX5 9, w ∈ kg_T := by
  have h : (u_ws RX5 TX5 9).all (fun w => decide (w ∈ lw_tbl) && goodWord w) = true := by decide +kernel
  intro w hw
  have h1 := List.all_eq_true.mp h w hw
  simp only [Bool.and_eq_true, decide_eq_true_eq] at h1
  exact List.mem_filter.mpr h1
theorem ckX5 : kg_CK 5 RX5 TX5 9 tyX5 := ⟨rfl, inX5, tyX5_ok, nmX5, rfl, kg_inT 116 (by decide +kernel) rfl, kg_inT 68 (by decide +kernel) rfl, by decide +kernel⟩
theorem inX6 : ∀ w ∈ u_ws RX6 TX6 6, w ∈ kg_T := by
  have h : (u_ws RX6 TX6 6).all (fun w => decide (w ∈ lw_tbl) && goodWord w) = true := by decide +kernel
  intro w hw
  have h1 := List.all_eq_true.mp h w hw
  simp only [Bool.and_eq_true, decide_eq_true_eq] at h1
  exact List.mem_filter.mpr h1
theorem ckX6 : kg_CK 6 RX6 TX6 6 tyX6 := ⟨rfl, inX6, tyX6_ok, nmX6, rfl, kg_inT 88 (by decide +kernel) rfl, kg_inT 67 (by decide +kernel) rfl, by decide +kernel⟩
theorem inX7 : ∀ w ∈ u_ws RX7 TX7 14, w ∈ kg_T := by
  have h : (u_ws RX7 TX7 14).all (fun w => decide (w ∈ lw_tbl) && goodWord w) = true := by decide +kernel
  intro w hw
  have h1 := List.all_eq_true.mp h w hw
  simp only [Bool.and_eq_true, decide_eq_true_eq] at h1
  exact List.mem_filter.mpr h1
theorem ckX7 : kg_CK 7 RX7 TX7 14 tyX7 := ⟨rfl, inX7, tyX7_ok, nmX7, rfl, kg_inT 80 (by decide +kernel) rfl, kg_inT 66 (by decide +kernel) rfl, by decide +kernel⟩
theorem inX8 : ∀ w ∈ u_ws RX8 TX8 40, w ∈ kg_T := by
  have h : (u_ws RX8 TX8 40).all (fun w => decide (w ∈ lw_tbl) && goodWord w) = true := by decide +kernel
  intro w hw
  have h1 := List.all_eq_true.mp h w hw
  simp only [Bool.and_eq_true, decide_eq_true_eq] at h1
  exact List.mem_filter.mpr h1
theorem ckX8 : kg_CK 8 RX8 TX8 40 tyX8 := ⟨rfl, inX8, tyX8_ok, nmX8, rfl, kg_inT 726 (by decide +kernel) rfl, kg_inT 75 (by decide +kernel) rfl, by decide +kernel⟩
abbrev qX7_init : kg_q := (yX7_init, cX7_init, 2, none)
theorem miX7_init : kg_MI qX7_init 0 := ⟨⟨kg_inT 83 (by decide +kernel) rfl, kg_inT 66 (by decide +kernel) rfl, by decide +kernel, by decide +kernel, by decide⟩, kg_inT 82 (by decide +kernel) rfl, rfl, rfl⟩
abbrev qX6_init : kg_q := (yX6_init, cX6_init, 1, none)
theorem miX6_init : kg_MI qX6_init 0 := ⟨⟨kg_inT 91 (by decide +kernel) rfl, kg_inT 67 (by decide +kernel) rfl, by decide +kernel, by decide +kernel, by decide⟩, kg_inT 90 (by decide +kernel) rfl, rfl, rfl⟩
abbrev qX5_init : kg_q := (yX5_init, cX5_init, 1, none)
theorem miX5_init : kg_MI qX5_init 0 := ⟨⟨kg_inT 119 (by decide +kernel) rfl, kg_inT 68 (by decide +kernel) rfl, by decide +kernel, by decide +kernel, by decide⟩, kg_inT 118 (by decide +kernel) rfl, rfl, rfl⟩
abbrev qX4_init : kg_q := (yX4_init, cX4_init, 2, none)
theorem miX4_init : kg_MI qX4_init 0 := ⟨⟨kg_inT 162 (by decide +kernel) rfl, kg_inT 69 (by decide +kernel) rfl, by decide +kernel, by decide +kernel, by decide⟩, kg_inT 161 (by decide +kernel) rfl, rfl, rfl⟩
abbrev qX2_init : kg_q := (yX2_init, cX2_init, 1, none)
theorem miX2_init : kg_MI qX2_init 0 := ⟨⟨kg_inT 182 (by decide +kernel) rfl, kg_inT 70 (by decide +kernel) rfl, by decide +kernel, by decide +kernel, by decide⟩, kg_inT 181 (by decide +kernel) rfl, rfl, rfl⟩
abbrev qX3_init : kg_q := (yX3_init, cX3_init, 1, none)
theorem miX3_init : kg_MI qX3_init 0 := ⟨⟨kg_inT 209 (by decide +kernel) rfl, kg_inT 71 (by decide +kernel) rfl, by decide +kernel, by decide +kernel, by decide⟩, kg_inT 208 (by decide +kernel) rfl, rfl, rfl⟩
abbrev qX1_init : kg_q := (yX1_init, cX1_init, 1, none)
theorem miX1_init : kg_MI qX1_init 0 := ⟨⟨kg_inT 237 (by decide +kernel) rfl, kg_inT 72 (by decide +kernel) rfl, by decide +kernel, by decide +kernel, by decide⟩, kg_inT 236 (by decide +kernel) rfl, rfl, rfl⟩
abbrev qX0_init : kg_q := (yX0_init, cX0_init, 1, none)
theorem miX0_init : kg_MI qX0_init 0 := ⟨⟨kg_inT 250 (by decide +kernel) rfl, kg_inT 73 (by decide +kernel) rfl, by decide +kernel, by decide +kernel, by decide⟩, kg_inT 249 (by decide +kernel) rfl, rfl, rfl⟩
abbrev qX0_empty : kg_q := (yX0_empty, cX0_empty, 1, none)
theorem mvX0_empty : kg_MV qX0_empty 0 := ⟨⟨kg_inT 290 (by decide +kernel) rfl, kg_inT 73 (by decide +kernel) rfl, by decide +kernel, by decide +kernel, by decide⟩, kg_inT 288 (by decide +kernel) rfl, kg_inT 289 (by decide +kernel) rfl⟩
abbrev qJ7_fill_53178 : kg_q := (yJ7_fill_53178, cJ7_fill_53178, 4, none)
theorem msJ7_fill_53178 : kg_MS qJ7_fill_53178 2 := ⟨⟨kg_inT 293 (by decide +kernel) rfl, kg_inT 74 (by decide +kernel) rfl, by decide +kernel, by decide +kernel, by decide⟩, kg_inT 292 (by decide +kernel) rfl⟩
abbrev qX5_begin : kg_q := (yX5_begin, cX5_begin, 2, none)
theorem mvX5_begin : kg_MV qX5_begin 1 := ⟨⟨kg_inT 297 (by decide +kernel) rfl, kg_inT 68 (by decide +kernel) rfl, by decide +kernel, by decide +kernel, by decide⟩, kg_inT 295 (by decide +kernel) rfl, kg_inT 296 (by decide +kernel) rfl⟩
abbrev qX7_feed : kg_q := (yX7_feed, cX7_feed, 2, (some .int))
theorem mvX7_feed : kg_MV qX7_feed 1 := ⟨⟨kg_inT 345 (by decide +kernel) rfl, kg_inT 66 (by decide +kernel) rfl, by decide +kernel, by decide +kernel, by decide⟩, kg_inT 343 (by decide +kernel) rfl, kg_inT 344 (by decide +kernel) rfl⟩
abbrev qX6_append : kg_q := (yX6_append, cX6_append, 2, (some .int))
theorem mvX6_append : kg_MV qX6_append 1 := ⟨⟨kg_inT 351 (by decide +kernel) rfl, kg_inT 67 (by decide +kernel) rfl, by decide +kernel, by decide +kernel, by decide⟩, kg_inT 349 (by decide +kernel) rfl, kg_inT 350 (by decide +kernel) rfl⟩
abbrev qX7_common : kg_q := (yX7_common, cX7_common, 4, (some .int))
theorem mvX7_common : kg_MV qX7_common 0 := ⟨⟨kg_inT 355 (by decide +kernel) rfl, kg_inT 66 (by decide +kernel) rfl, by decide +kernel, by decide +kernel, by decide⟩, kg_inT 353 (by decide +kernel) rfl, kg_inT 354 (by decide +kernel) rfl⟩
abbrev qX6_readInto : kg_q := (yX6_readInto, cX6_readInto, 3, (some .int))
theorem mvX6_readInto : kg_MV qX6_readInto 1 := ⟨⟨kg_inT 359 (by decide +kernel) rfl, kg_inT 67 (by decide +kernel) rfl, by decide +kernel, by decide +kernel, by decide⟩, kg_inT 357 (by decide +kernel) rfl, kg_inT 358 (by decide +kernel) rfl⟩
abbrev qX6_skipBlanks : kg_q := (yX6_skipBlanks, cX6_skipBlanks, 1, none)
theorem mvX6_skipBlanks : kg_MV qX6_skipBlanks 0 := ⟨⟨kg_inT 364 (by decide +kernel) rfl, kg_inT 67 (by decide +kernel) rfl, by decide +kernel, by decide +kernel, by decide⟩, kg_inT 363 (by decide +kernel) rfl, kg_inT 0 (by decide +kernel) rfl⟩
abbrev qX6_readClause : kg_q := (yX6_readClause, cX6_readClause, 3, none)
theorem mvX6_readClause : kg_MV qX6_readClause 1 := ⟨⟨kg_inT 368 (by decide +kernel) rfl, kg_inT 67 (by decide +kernel) rfl, by decide +kernel, by decide +kernel, by decide⟩, kg_inT 367 (by decide +kernel) rfl, kg_inT 1 (by decide +kernel) rfl⟩
abbrev qX6_readGate : kg_q := (yX6_readGate, cX6_readGate, 4, none)
theorem mvX6_readGate : kg_MV qX6_readGate 2 := ⟨⟨kg_inT 372 (by decide +kernel) rfl, kg_inT 67 (by decide +kernel) rfl, by decide +kernel, by decide +kernel, by decide⟩, kg_inT 371 (by decide +kernel) rfl, kg_inT 2 (by decide +kernel) rfl⟩
abbrev qX6_blame : kg_q := (yX6_blame, cX6_blame, 3, none)
theorem mvX6_blame : kg_MV qX6_blame 2 := ⟨⟨kg_inT 376 (by decide +kernel) rfl, kg_inT 67 (by decide +kernel) rfl, by decide +kernel, by decide +kernel, by decide⟩, kg_inT 375 (by decide +kernel) rfl, kg_inT 3 (by decide +kernel) rfl⟩
abbrev qX6_readNumber : kg_q := (yX6_readNumber, cX6_readNumber, 4, (some .int))
theorem mvX6_readNumber : kg_MV qX6_readNumber 2 := ⟨⟨kg_inT 380 (by decide +kernel) rfl, kg_inT 67 (by decide +kernel) rfl, by decide +kernel, by decide +kernel, by decide⟩, kg_inT 379 (by decide +kernel) rfl, kg_inT 4 (by decide +kernel) rfl⟩
abbrev qX6_readEnd : kg_q := (yX6_readEnd, cX6_readEnd, 1, (some .boolean))
theorem mvX6_readEnd : kg_MV qX6_readEnd 0 := ⟨⟨kg_inT 384 (by decide +kernel) rfl, kg_inT 67 (by decide +kernel) rfl, by decide +kernel, by decide +kernel, by decide⟩, kg_inT 383 (by decide +kernel) rfl, kg_inT 5 (by decide +kernel) rfl⟩
abbrev qX0_addGate : kg_q := (yX0_addGate, cX0_addGate, 2, none)
theorem mvX0_addGate : kg_MV qX0_addGate 1 := ⟨⟨kg_inT 388 (by decide +kernel) rfl, kg_inT 73 (by decide +kernel) rfl, by decide +kernel, by decide +kernel, by decide⟩, kg_inT 386 (by decide +kernel) rfl, kg_inT 387 (by decide +kernel) rfl⟩
abbrev qX6_readPerson : kg_q := (yX6_readPerson, cX6_readPerson, 5, none)
theorem mvX6_readPerson : kg_MV qX6_readPerson 2 := ⟨⟨kg_inT 392 (by decide +kernel) rfl, kg_inT 67 (by decide +kernel) rfl, by decide +kernel, by decide +kernel, by decide⟩, kg_inT 391 (by decide +kernel) rfl, kg_inT 6 (by decide +kernel) rfl⟩
abbrev qX0_addPerson : kg_q := (yX0_addPerson, cX0_addPerson, 3, none)
theorem mvX0_addPerson : kg_MV qX0_addPerson 2 := ⟨⟨kg_inT 396 (by decide +kernel) rfl, kg_inT 73 (by decide +kernel) rfl, by decide +kernel, by decide +kernel, by decide⟩, kg_inT 394 (by decide +kernel) rfl, kg_inT 395 (by decide +kernel) rfl⟩
abbrev qX6_readLiking : kg_q := (yX6_readLiking, cX6_readLiking, 5, none)
theorem mvX6_readLiking : kg_MV qX6_readLiking 1 := ⟨⟨kg_inT 400 (by decide +kernel) rfl, kg_inT 67 (by decide +kernel) rfl, by decide +kernel, by decide +kernel, by decide⟩, kg_inT 399 (by decide +kernel) rfl, kg_inT 7 (by decide +kernel) rfl⟩
abbrev qX0_isTold : kg_q := (yX0_isTold, cX0_isTold, 3, (some .boolean))
theorem mvX0_isTold : kg_MV qX0_isTold 2 := ⟨⟨kg_inT 404 (by decide +kernel) rfl, kg_inT 73 (by decide +kernel) rfl, by decide +kernel, by decide +kernel, by decide⟩, kg_inT 402 (by decide +kernel) rfl, kg_inT 403 (by decide +kernel) rfl⟩
abbrev qX0_hasPerson : kg_q := (yX0_hasPerson, cX0_hasPerson, 2, (some .boolean))
theorem mvX0_hasPerson : kg_MV qX0_hasPerson 1 := ⟨⟨kg_inT 408 (by decide +kernel) rfl, kg_inT 73 (by decide +kernel) rfl, by decide +kernel, by decide +kernel, by decide⟩, kg_inT 406 (by decide +kernel) rfl, kg_inT 407 (by decide +kernel) rfl⟩
abbrev qX0_addLiking : kg_q := (yX0_addLiking, cX0_addLiking, 4, none)
theorem mvX0_addLiking : kg_MV qX0_addLiking 3 := ⟨⟨kg_inT 412 (by decide +kernel) rfl, kg_inT 73 (by decide +kernel) rfl, by decide +kernel, by decide +kernel, by decide⟩, kg_inT 410 (by decide +kernel) rfl, kg_inT 411 (by decide +kernel) rfl⟩
abbrev qX0_liking : kg_q := (yX0_liking, cX0_liking, 3, (some .int))
theorem mvX0_liking : kg_MV qX0_liking 2 := ⟨⟨kg_inT 416 (by decide +kernel) rfl, kg_inT 73 (by decide +kernel) rfl, by decide +kernel, by decide +kernel, by decide⟩, kg_inT 414 (by decide +kernel) rfl, kg_inT 415 (by decide +kernel) rfl⟩
abbrev qX4_forget : kg_q := (yX4_forget, cX4_forget, 1, none)
theorem mvX4_forget : kg_MV qX4_forget 0 := ⟨⟨kg_inT 421 (by decide +kernel) rfl, kg_inT 69 (by decide +kernel) rfl, by decide +kernel, by decide +kernel, by decide⟩, kg_inT 419 (by decide +kernel) rfl, kg_inT 420 (by decide +kernel) rfl⟩
abbrev qX2_forget : kg_q := (yX2_forget, cX2_forget, 1, none)
theorem mvX2_forget : kg_MV qX2_forget 0 := ⟨⟨kg_inT 425 (by decide +kernel) rfl, kg_inT 70 (by decide +kernel) rfl, by decide +kernel, by decide +kernel, by decide⟩, kg_inT 423 (by decide +kernel) rfl, kg_inT 424 (by decide +kernel) rfl⟩
abbrev qX7_fault : kg_q := (yX7_fault, cX7_fault, 1, (some .int))
theorem mvX7_fault : kg_MV qX7_fault 0 := ⟨⟨kg_inT 429 (by decide +kernel) rfl, kg_inT 66 (by decide +kernel) rfl, by decide +kernel, by decide +kernel, by decide⟩, kg_inT 427 (by decide +kernel) rfl, kg_inT 428 (by decide +kernel) rfl⟩
abbrev qX7_told : kg_q := (yX7_told, cX7_told, 2, (some .int))
theorem mvX7_told : kg_MV qX7_told 1 := ⟨⟨kg_inT 433 (by decide +kernel) rfl, kg_inT 66 (by decide +kernel) rfl, by decide +kernel, by decide +kernel, by decide⟩, kg_inT 431 (by decide +kernel) rfl, kg_inT 432 (by decide +kernel) rfl⟩
abbrev qX5_waiting : kg_q := (yX5_waiting, cX5_waiting, 4, (some .int))
theorem mvX5_waiting : kg_MV qX5_waiting 1 := ⟨⟨kg_inT 437 (by decide +kernel) rfl, kg_inT 68 (by decide +kernel) rfl, by decide +kernel, by decide +kernel, by decide⟩, kg_inT 435 (by decide +kernel) rfl, kg_inT 436 (by decide +kernel) rfl⟩
abbrev qX5_rusted : kg_q := (yX5_rusted, cX5_rusted, 4, (some .int))
theorem mvX5_rusted : kg_MV qX5_rusted 1 := ⟨⟨kg_inT 441 (by decide +kernel) rfl, kg_inT 68 (by decide +kernel) rfl, by decide +kernel, by decide +kernel, by decide⟩, kg_inT 439 (by decide +kernel) rfl, kg_inT 440 (by decide +kernel) rfl⟩
abbrev qX5_isRusted : kg_q := (yX5_isRusted, cX5_isRusted, 3, (some .boolean))
theorem mvX5_isRusted : kg_MV qX5_isRusted 2 := ⟨⟨kg_inT 445 (by decide +kernel) rfl, kg_inT 68 (by decide +kernel) rfl, by decide +kernel, by decide +kernel, by decide⟩, kg_inT 443 (by decide +kernel) rfl, kg_inT 444 (by decide +kernel) rfl⟩
abbrev qX7_gate : kg_q := (yX7_gate, cX7_gate, 3, (some .int))
theorem mvX7_gate : kg_MV qX7_gate 2 := ⟨⟨kg_inT 449 (by decide +kernel) rfl, kg_inT 66 (by decide +kernel) rfl, by decide +kernel, by decide +kernel, by decide⟩, kg_inT 447 (by decide +kernel) rfl, kg_inT 448 (by decide +kernel) rfl⟩
abbrev qX0_hasGate : kg_q := (yX0_hasGate, cX0_hasGate, 2, (some .boolean))
theorem mvX0_hasGate : kg_MV qX0_hasGate 1 := ⟨⟨kg_inT 453 (by decide +kernel) rfl, kg_inT 73 (by decide +kernel) rfl, by decide +kernel, by decide +kernel, by decide⟩, kg_inT 451 (by decide +kernel) rfl, kg_inT 452 (by decide +kernel) rfl⟩
abbrev qX5_waitingAt : kg_q := (yX5_waitingAt, cX5_waitingAt, 5, (some .int))
theorem mvX5_waitingAt : kg_MV qX5_waitingAt 2 := ⟨⟨kg_inT 459 (by decide +kernel) rfl, kg_inT 68 (by decide +kernel) rfl, by decide +kernel, by decide +kernel, by decide⟩, kg_inT 457 (by decide +kernel) rfl, kg_inT 458 (by decide +kernel) rfl⟩
abbrev qX7_person : kg_q := (yX7_person, cX7_person, 3, (some .int))
theorem mvX7_person : kg_MV qX7_person 2 := ⟨⟨kg_inT 463 (by decide +kernel) rfl, kg_inT 66 (by decide +kernel) rfl, by decide +kernel, by decide +kernel, by decide⟩, kg_inT 461 (by decide +kernel) rfl, kg_inT 462 (by decide +kernel) rfl⟩
abbrev qX0_wouldMeet : kg_q := (yX0_wouldMeet, cX0_wouldMeet, 4, (some .int))
theorem mvX0_wouldMeet : kg_MV qX0_wouldMeet 2 := ⟨⟨kg_inT 468 (by decide +kernel) rfl, kg_inT 73 (by decide +kernel) rfl, by decide +kernel, by decide +kernel, by decide⟩, kg_inT 466 (by decide +kernel) rfl, kg_inT 467 (by decide +kernel) rfl⟩
abbrev qX7_likes : kg_q := (yX7_likes, cX7_likes, 3, (some .int))
theorem mvX7_likes : kg_MV qX7_likes 2 := ⟨⟨kg_inT 472 (by decide +kernel) rfl, kg_inT 66 (by decide +kernel) rfl, by decide +kernel, by decide +kernel, by decide⟩, kg_inT 470 (by decide +kernel) rfl, kg_inT 471 (by decide +kernel) rfl⟩
abbrev qX7_logged : kg_q := (yX7_logged, cX7_logged, 2, (some .int))
theorem mvX7_logged : kg_MV qX7_logged 1 := ⟨⟨kg_inT 477 (by decide +kernel) rfl, kg_inT 66 (by decide +kernel) rfl, by decide +kernel, by decide +kernel, by decide⟩, kg_inT 475 (by decide +kernel) rfl, kg_inT 476 (by decide +kernel) rfl⟩
abbrev qX7_hour : kg_q := (yX7_hour, cX7_hour, 4, (some .int))
theorem mvX7_hour : kg_MV qX7_hour 1 := ⟨⟨kg_inT 481 (by decide +kernel) rfl, kg_inT 66 (by decide +kernel) rfl, by decide +kernel, by decide +kernel, by decide⟩, kg_inT 479 (by decide +kernel) rfl, kg_inT 480 (by decide +kernel) rfl⟩
abbrev qX7_refusalOfHours : kg_q := (yX7_refusalOfHours, cX7_refusalOfHours, 2, (some .int))
theorem mvX7_refusalOfHours : kg_MV qX7_refusalOfHours 1 := ⟨⟨kg_inT 485 (by decide +kernel) rfl, kg_inT 66 (by decide +kernel) rfl, by decide +kernel, by decide +kernel, by decide⟩, kg_inT 484 (by decide +kernel) rfl, kg_inT 8 (by decide +kernel) rfl⟩
abbrev qX4_remember : kg_q := (yX4_remember, cX4_remember, 2, none)
theorem mvX4_remember : kg_MV qX4_remember 1 := ⟨⟨kg_inT 490 (by decide +kernel) rfl, kg_inT 69 (by decide +kernel) rfl, by decide +kernel, by decide +kernel, by decide⟩, kg_inT 488 (by decide +kernel) rfl, kg_inT 489 (by decide +kernel) rfl⟩
abbrev qX5_copyFrom : kg_q := (yX5_copyFrom, cX5_copyFrom, 2, none)
theorem mvX5_copyFrom : kg_MV qX5_copyFrom 1 := ⟨⟨kg_inT 494 (by decide +kernel) rfl, kg_inT 68 (by decide +kernel) rfl, by decide +kernel, by decide +kernel, by decide⟩, kg_inT 492 (by decide +kernel) rfl, kg_inT 493 (by decide +kernel) rfl⟩
abbrev qX5_passHour : kg_q := (yX5_passHour, cX5_passHour, 3, none)
theorem mvX5_passHour : kg_MV qX5_passHour 1 := ⟨⟨kg_inT 504 (by decide +kernel) rfl, kg_inT 68 (by decide +kernel) rfl, by decide +kernel, by decide +kernel, by decide⟩, kg_inT 502 (by decide +kernel) rfl, kg_inT 503 (by decide +kernel) rfl⟩
abbrev qX5_meetAt : kg_q := (yX5_meetAt, cX5_meetAt, 10, (some .boolean))
theorem mvX5_meetAt : kg_MV qX5_meetAt 2 := ⟨⟨kg_inT 508 (by decide +kernel) rfl, kg_inT 68 (by decide +kernel) rfl, by decide +kernel, by decide +kernel, by decide⟩, kg_inT 507 (by decide +kernel) rfl, kg_inT 9 (by decide +kernel) rfl⟩
abbrev qX0_together : kg_q := (yX0_together, cX0_together, 3, (some .int))
theorem mvX0_together : kg_MV qX0_together 2 := ⟨⟨kg_inT 514 (by decide +kernel) rfl, kg_inT 73 (by decide +kernel) rfl, by decide +kernel, by decide +kernel, by decide⟩, kg_inT 512 (by decide +kernel) rfl, kg_inT 513 (by decide +kernel) rfl⟩
abbrev qX5_meet : kg_q := (yX5_meet, cX5_meet, 4, none)
theorem mvX5_meet : kg_MV qX5_meet 2 := ⟨⟨kg_inT 518 (by decide +kernel) rfl, kg_inT 68 (by decide +kernel) rfl, by decide +kernel, by decide +kernel, by decide⟩, kg_inT 517 (by decide +kernel) rfl, kg_inT 10 (by decide +kernel) rfl⟩
abbrev qX7_come : kg_q := (yX7_come, cX7_come, 3, (some .int))
theorem mvX7_come : kg_MV qX7_come 2 := ⟨⟨kg_inT 522 (by decide +kernel) rfl, kg_inT 66 (by decide +kernel) rfl, by decide +kernel, by decide +kernel, by decide⟩, kg_inT 520 (by decide +kernel) rfl, kg_inT 521 (by decide +kernel) rfl⟩
abbrev qX7_goOff : kg_q := (yX7_goOff, cX7_goOff, 3, (some .int))
theorem mvX7_goOff : kg_MV qX7_goOff 1 := ⟨⟨kg_inT 526 (by decide +kernel) rfl, kg_inT 66 (by decide +kernel) rfl, by decide +kernel, by decide +kernel, by decide⟩, kg_inT 524 (by decide +kernel) rfl, kg_inT 525 (by decide +kernel) rfl⟩
abbrev qX7_hole : kg_q := (yX7_hole, cX7_hole, 2, (some .int))
theorem mvX7_hole : kg_MV qX7_hole 1 := ⟨⟨kg_inT 530 (by decide +kernel) rfl, kg_inT 66 (by decide +kernel) rfl, by decide +kernel, by decide +kernel, by decide⟩, kg_inT 528 (by decide +kernel) rfl, kg_inT 529 (by decide +kernel) rfl⟩
abbrev qX7_oil : kg_q := (yX7_oil, cX7_oil, 3, (some .int))
theorem mvX7_oil : kg_MV qX7_oil 1 := ⟨⟨kg_inT 534 (by decide +kernel) rfl, kg_inT 66 (by decide +kernel) rfl, by decide +kernel, by decide +kernel, by decide⟩, kg_inT 532 (by decide +kernel) rfl, kg_inT 533 (by decide +kernel) rfl⟩
abbrev qX7_well : kg_q := (yX7_well, cX7_well, 3, (some .int))
theorem mvX7_well : kg_MV qX7_well 1 := ⟨⟨kg_inT 538 (by decide +kernel) rfl, kg_inT 66 (by decide +kernel) rfl, by decide +kernel, by decide +kernel, by decide⟩, kg_inT 536 (by decide +kernel) rfl, kg_inT 537 (by decide +kernel) rfl⟩
abbrev qX7_drift : kg_q := (yX7_drift, cX7_drift, 4, (some .int))
theorem mvX7_drift : kg_MV qX7_drift 1 := ⟨⟨kg_inT 542 (by decide +kernel) rfl, kg_inT 66 (by decide +kernel) rfl, by decide +kernel, by decide +kernel, by decide⟩, kg_inT 540 (by decide +kernel) rfl, kg_inT 541 (by decide +kernel) rfl⟩
abbrev qX7_comeByDraw : kg_q := (yX7_comeByDraw, cX7_comeByDraw, 3, none)
theorem mvX7_comeByDraw : kg_MV qX7_comeByDraw 0 := ⟨⟨kg_inT 546 (by decide +kernel) rfl, kg_inT 66 (by decide +kernel) rfl, by decide +kernel, by decide +kernel, by decide⟩, kg_inT 545 (by decide +kernel) rfl, kg_inT 11 (by decide +kernel) rfl⟩
abbrev qX7_draw : kg_q := (yX7_draw, cX7_draw, 2, (some .int))
theorem mvX7_draw : kg_MV qX7_draw 1 := ⟨⟨kg_inT 550 (by decide +kernel) rfl, kg_inT 66 (by decide +kernel) rfl, by decide +kernel, by decide +kernel, by decide⟩, kg_inT 549 (by decide +kernel) rfl, kg_inT 12 (by decide +kernel) rfl⟩
abbrev qX7_undo : kg_q := (yX7_undo, cX7_undo, 1, (some .int))
theorem mvX7_undo : kg_MV qX7_undo 0 := ⟨⟨kg_inT 557 (by decide +kernel) rfl, kg_inT 66 (by decide +kernel) rfl, by decide +kernel, by decide +kernel, by decide⟩, kg_inT 555 (by decide +kernel) rfl, kg_inT 556 (by decide +kernel) rfl⟩
abbrev qX4_restore : kg_q := (yX4_restore, cX4_restore, 2, none)
theorem mvX4_restore : kg_MV qX4_restore 1 := ⟨⟨kg_inT 561 (by decide +kernel) rfl, kg_inT 69 (by decide +kernel) rfl, by decide +kernel, by decide +kernel, by decide⟩, kg_inT 559 (by decide +kernel) rfl, kg_inT 560 (by decide +kernel) rfl⟩
abbrev qX7_atOnce : kg_q := (yX7_atOnce, cX7_atOnce, 2, (some .int))
theorem mvX7_atOnce : kg_MV qX7_atOnce 1 := ⟨⟨kg_inT 565 (by decide +kernel) rfl, kg_inT 66 (by decide +kernel) rfl, by decide +kernel, by decide +kernel, by decide⟩, kg_inT 563 (by decide +kernel) rfl, kg_inT 564 (by decide +kernel) rfl⟩
abbrev qX7_openGates : kg_q := (yX7_openGates, cX7_openGates, 1, (some .int))
theorem mvX7_openGates : kg_MV qX7_openGates 0 := ⟨⟨kg_inT 569 (by decide +kernel) rfl, kg_inT 66 (by decide +kernel) rfl, by decide +kernel, by decide +kernel, by decide⟩, kg_inT 568 (by decide +kernel) rfl, kg_inT 13 (by decide +kernel) rfl⟩
abbrev qJ6_bitCount_0f7a4 : kg_q := (yJ6_bitCount_0f7a4, cJ6_bitCount_0f7a4, 1, (some .int))
theorem msJ6_bitCount_0f7a4 : kg_MS qJ6_bitCount_0f7a4 1 := ⟨⟨kg_inT 572 (by decide +kernel) rfl, kg_inT 78 (by decide +kernel) rfl, by decide +kernel, by decide +kernel, by decide⟩, kg_inT 571 (by decide +kernel) rfl⟩
abbrev qX3_find : kg_q := (yX3_find, cX3_find, 4, none)
theorem mvX3_find : kg_MV qX3_find 3 := ⟨⟨kg_inT 579 (by decide +kernel) rfl, kg_inT 71 (by decide +kernel) rfl, by decide +kernel, by decide +kernel, by decide⟩, kg_inT 577 (by decide +kernel) rfl, kg_inT 578 (by decide +kernel) rfl⟩
abbrev qX3_pairFrom : kg_q := (yX3_pairFrom, cX3_pairFrom, 7, none)
theorem mvX3_pairFrom : kg_MV qX3_pairFrom 4 := ⟨⟨kg_inT 584 (by decide +kernel) rfl, kg_inT 71 (by decide +kernel) rfl, by decide +kernel, by decide +kernel, by decide⟩, kg_inT 583 (by decide +kernel) rfl, kg_inT 14 (by decide +kernel) rfl⟩
abbrev qX3_takeIfBetter : kg_q := (yX3_takeIfBetter, cX3_takeIfBetter, 3, none)
theorem mvX3_takeIfBetter : kg_MV qX3_takeIfBetter 2 := ⟨⟨kg_inT 588 (by decide +kernel) rfl, kg_inT 71 (by decide +kernel) rfl, by decide +kernel, by decide +kernel, by decide⟩, kg_inT 587 (by decide +kernel) rfl, kg_inT 15 (by decide +kernel) rfl⟩
abbrev qX7_sides : kg_q := (yX7_sides, cX7_sides, 3, (some .int))
theorem mvX7_sides : kg_MV qX7_sides 2 := ⟨⟨kg_inT 595 (by decide +kernel) rfl, kg_inT 66 (by decide +kernel) rfl, by decide +kernel, by decide +kernel, by decide⟩, kg_inT 593 (by decide +kernel) rfl, kg_inT 594 (by decide +kernel) rfl⟩
abbrev qX0_hasAll : kg_q := (yX0_hasAll, cX0_hasAll, 2, (some .boolean))
theorem mvX0_hasAll : kg_MV qX0_hasAll 1 := ⟨⟨kg_inT 599 (by decide +kernel) rfl, kg_inT 73 (by decide +kernel) rfl, by decide +kernel, by decide +kernel, by decide⟩, kg_inT 597 (by decide +kernel) rfl, kg_inT 598 (by decide +kernel) rfl⟩
abbrev qX1_fewestHours : kg_q := (yX1_fewestHours, cX1_fewestHours, 8, (some .int))
theorem mvX1_fewestHours : kg_MV qX1_fewestHours 5 := ⟨⟨kg_inT 603 (by decide +kernel) rfl, kg_inT 72 (by decide +kernel) rfl, by decide +kernel, by decide +kernel, by decide⟩, kg_inT 601 (by decide +kernel) rfl, kg_inT 602 (by decide +kernel) rfl⟩
abbrev qX1_isThere : kg_q := (yX1_isThere, cX1_isThere, 5, (some .boolean))
theorem mvX1_isThere : kg_MV qX1_isThere 3 := ⟨⟨kg_inT 608 (by decide +kernel) rfl, kg_inT 72 (by decide +kernel) rfl, by decide +kernel, by decide +kernel, by decide⟩, kg_inT 607 (by decide +kernel) rfl, kg_inT 16 (by decide +kernel) rfl⟩
abbrev qX1_cross : kg_q := (yX1_cross, cX1_cross, 9, none)
theorem mvX1_cross : kg_MV qX1_cross 5 := ⟨⟨kg_inT 612 (by decide +kernel) rfl, kg_inT 72 (by decide +kernel) rfl, by decide +kernel, by decide +kernel, by decide⟩, kg_inT 611 (by decide +kernel) rfl, kg_inT 17 (by decide +kernel) rfl⟩
abbrev qX1_reach : kg_q := (yX1_reach, cX1_reach, 3, none)
theorem mvX1_reach : kg_MV qX1_reach 2 := ⟨⟨kg_inT 616 (by decide +kernel) rfl, kg_inT 72 (by decide +kernel) rfl, by decide +kernel, by decide +kernel, by decide⟩, kg_inT 615 (by decide +kernel) rfl, kg_inT 18 (by decide +kernel) rfl⟩
abbrev qX7_steady : kg_q := (yX7_steady, cX7_steady, 4, (some .int))
theorem mvX7_steady : kg_MV qX7_steady 0 := ⟨⟨kg_inT 621 (by decide +kernel) rfl, kg_inT 66 (by decide +kernel) rfl, by decide +kernel, by decide +kernel, by decide⟩, kg_inT 619 (by decide +kernel) rfl, kg_inT 620 (by decide +kernel) rfl⟩
abbrev qX7_wouldRather : kg_q := (yX7_wouldRather, cX7_wouldRather, 5, (some .boolean))
theorem mvX7_wouldRather : kg_MV qX7_wouldRather 2 := ⟨⟨kg_inT 625 (by decide +kernel) rfl, kg_inT 66 (by decide +kernel) rfl, by decide +kernel, by decide +kernel, by decide⟩, kg_inT 624 (by decide +kernel) rfl, kg_inT 19 (by decide +kernel) rfl⟩
abbrev qX7_loves : kg_q := (yX7_loves, cX7_loves, 5, (some .int))
theorem mvX7_loves : kg_MV qX7_loves 1 := ⟨⟨kg_inT 629 (by decide +kernel) rfl, kg_inT 66 (by decide +kernel) rfl, by decide +kernel, by decide +kernel, by decide⟩, kg_inT 627 (by decide +kernel) rfl, kg_inT 628 (by decide +kernel) rfl⟩
abbrev qX0_likesBest : kg_q := (yX0_likesBest, cX0_likesBest, 5, (some .boolean))
theorem mvX0_likesBest : kg_MV qX0_likesBest 2 := ⟨⟨kg_inT 633 (by decide +kernel) rfl, kg_inT 73 (by decide +kernel) rfl, by decide +kernel, by decide +kernel, by decide⟩, kg_inT 631 (by decide +kernel) rfl, kg_inT 632 (by decide +kernel) rfl⟩
abbrev qX7_first : kg_q := (yX7_first, cX7_first, 3, (some .int))
theorem mvX7_first : kg_MV qX7_first 0 := ⟨⟨kg_inT 637 (by decide +kernel) rfl, kg_inT 66 (by decide +kernel) rfl, by decide +kernel, by decide +kernel, by decide⟩, kg_inT 635 (by decide +kernel) rfl, kg_inT 636 (by decide +kernel) rfl⟩
abbrev qX5_madeIllBy : kg_q := (yX5_madeIllBy, cX5_madeIllBy, 5, (some .int))
theorem mvX5_madeIllBy : kg_MV qX5_madeIllBy 1 := ⟨⟨kg_inT 641 (by decide +kernel) rfl, kg_inT 68 (by decide +kernel) rfl, by decide +kernel, by decide +kernel, by decide⟩, kg_inT 639 (by decide +kernel) rfl, kg_inT 640 (by decide +kernel) rfl⟩
abbrev qX7_dies : kg_q := (yX7_dies, cX7_dies, 6, (some .int))
theorem mvX7_dies : kg_MV qX7_dies 1 := ⟨⟨kg_inT 645 (by decide +kernel) rfl, kg_inT 66 (by decide +kernel) rfl, by decide +kernel, by decide +kernel, by decide⟩, kg_inT 643 (by decide +kernel) rfl, kg_inT 644 (by decide +kernel) rfl⟩
abbrev qX7_oilFor : kg_q := (yX7_oilFor, cX7_oilFor, 4, (some .int))
theorem mvX7_oilFor : kg_MV qX7_oilFor 1 := ⟨⟨kg_inT 649 (by decide +kernel) rfl, kg_inT 66 (by decide +kernel) rfl, by decide +kernel, by decide +kernel, by decide⟩, kg_inT 647 (by decide +kernel) rfl, kg_inT 648 (by decide +kernel) rfl⟩
abbrev qX7_oilings : kg_q := (yX7_oilings, cX7_oilings, 6, (some .int))
theorem mvX7_oilings : kg_MV qX7_oilings 2 := ⟨⟨kg_inT 653 (by decide +kernel) rfl, kg_inT 66 (by decide +kernel) rfl, by decide +kernel, by decide +kernel, by decide⟩, kg_inT 652 (by decide +kernel) rfl, kg_inT 20 (by decide +kernel) rfl⟩
abbrev qX7_evening : kg_q := (yX7_evening, cX7_evening, 4, (some .int))
theorem mvX7_evening : kg_MV qX7_evening 1 := ⟨⟨kg_inT 657 (by decide +kernel) rfl, kg_inT 66 (by decide +kernel) rfl, by decide +kernel, by decide +kernel, by decide⟩, kg_inT 655 (by decide +kernel) rfl, kg_inT 656 (by decide +kernel) rfl⟩
abbrev qX7_dry : kg_q := (yX7_dry, cX7_dry, 6, (some .int))
theorem mvX7_dry : kg_MV qX7_dry 2 := ⟨⟨kg_inT 664 (by decide +kernel) rfl, kg_inT 66 (by decide +kernel) rfl, by decide +kernel, by decide +kernel, by decide⟩, kg_inT 662 (by decide +kernel) rfl, kg_inT 663 (by decide +kernel) rfl⟩
abbrev qX7_ill : kg_q := (yX7_ill, cX7_ill, 3, (some .int))
theorem mvX7_ill : kg_MV qX7_ill 2 := ⟨⟨kg_inT 670 (by decide +kernel) rfl, kg_inT 66 (by decide +kernel) rfl, by decide +kernel, by decide +kernel, by decide⟩, kg_inT 668 (by decide +kernel) rfl, kg_inT 669 (by decide +kernel) rfl⟩
abbrev qX2_learn : kg_q := (yX2_learn, cX2_learn, 3, (some .int))
theorem mvX2_learn : kg_MV qX2_learn 2 := ⟨⟨kg_inT 674 (by decide +kernel) rfl, kg_inT 70 (by decide +kernel) rfl, by decide +kernel, by decide +kernel, by decide⟩, kg_inT 672 (by decide +kernel) rfl, kg_inT 673 (by decide +kernel) rfl⟩
abbrev qX7_mayBe : kg_q := (yX7_mayBe, cX7_mayBe, 3, (some .int))
theorem mvX7_mayBe : kg_MV qX7_mayBe 0 := ⟨⟨kg_inT 678 (by decide +kernel) rfl, kg_inT 66 (by decide +kernel) rfl, by decide +kernel, by decide +kernel, by decide⟩, kg_inT 676 (by decide +kernel) rfl, kg_inT 677 (by decide +kernel) rfl⟩
abbrev qX2_allows : kg_q := (yX2_allows, cX2_allows, 2, (some .boolean))
theorem mvX2_allows : kg_MV qX2_allows 1 := ⟨⟨kg_inT 682 (by decide +kernel) rfl, kg_inT 70 (by decide +kernel) rfl, by decide +kernel, by decide +kernel, by decide⟩, kg_inT 680 (by decide +kernel) rfl, kg_inT 681 (by decide +kernel) rfl⟩
abbrev qX7_ask : kg_q := (yX7_ask, cX7_ask, 6, (some .int))
theorem mvX7_ask : kg_MV qX7_ask 0 := ⟨⟨kg_inT 686 (by decide +kernel) rfl, kg_inT 66 (by decide +kernel) rfl, by decide +kernel, by decide +kernel, by decide⟩, kg_inT 684 (by decide +kernel) rfl, kg_inT 685 (by decide +kernel) rfl⟩
abbrev qX7_greatestPart : kg_q := (yX7_greatestPart, cX7_greatestPart, 5, (some .int))
theorem mvX7_greatestPart : kg_MV qX7_greatestPart 2 := ⟨⟨kg_inT 691 (by decide +kernel) rfl, kg_inT 66 (by decide +kernel) rfl, by decide +kernel, by decide +kernel, by decide⟩, kg_inT 690 (by decide +kernel) rfl, kg_inT 21 (by decide +kernel) rfl⟩
abbrev qX7_write : kg_q := (yX7_write, cX7_write, 3, (some .int))
theorem mvX7_write : kg_MV qX7_write 2 := ⟨⟨kg_inT 695 (by decide +kernel) rfl, kg_inT 66 (by decide +kernel) rfl, by decide +kernel, by decide +kernel, by decide⟩, kg_inT 693 (by decide +kernel) rfl, kg_inT 694 (by decide +kernel) rfl⟩
abbrev qX2_enter : kg_q := (yX2_enter, cX2_enter, 3, (some .int))
theorem mvX2_enter : kg_MV qX2_enter 2 := ⟨⟨kg_inT 699 (by decide +kernel) rfl, kg_inT 70 (by decide +kernel) rfl, by decide +kernel, by decide +kernel, by decide⟩, kg_inT 697 (by decide +kernel) rfl, kg_inT 698 (by decide +kernel) rfl⟩
abbrev qX7_tear : kg_q := (yX7_tear, cX7_tear, 2, (some .int))
theorem mvX7_tear : kg_MV qX7_tear 0 := ⟨⟨kg_inT 703 (by decide +kernel) rfl, kg_inT 66 (by decide +kernel) rfl, by decide +kernel, by decide +kernel, by decide⟩, kg_inT 701 (by decide +kernel) rfl, kg_inT 702 (by decide +kernel) rfl⟩
abbrev qX7_judge : kg_q := (yX7_judge, cX7_judge, 1, (some .int))
theorem mvX7_judge : kg_MV qX7_judge 0 := ⟨⟨kg_inT 707 (by decide +kernel) rfl, kg_inT 66 (by decide +kernel) rfl, by decide +kernel, by decide +kernel, by decide⟩, kg_inT 705 (by decide +kernel) rfl, kg_inT 706 (by decide +kernel) rfl⟩
abbrev qX2_firstWrong : kg_q := (yX2_firstWrong, cX2_firstWrong, 3, (some .int))
theorem mvX2_firstWrong : kg_MV qX2_firstWrong 1 := ⟨⟨kg_inT 711 (by decide +kernel) rfl, kg_inT 70 (by decide +kernel) rfl, by decide +kernel, by decide +kernel, by decide⟩, kg_inT 709 (by decide +kernel) rfl, kg_inT 710 (by decide +kernel) rfl⟩
abbrev qX7_seed : kg_q := (yX7_seed, cX7_seed, 3, (some .int))
theorem mvX7_seed : kg_MV qX7_seed 1 := ⟨⟨kg_inT 715 (by decide +kernel) rfl, kg_inT 66 (by decide +kernel) rfl, by decide +kernel, by decide +kernel, by decide⟩, kg_inT 713 (by decide +kernel) rfl, kg_inT 714 (by decide +kernel) rfl⟩
abbrev qX7_keep : kg_q := (yX7_keep, cX7_keep, 2, (some .int))
theorem mvX7_keep : kg_MV qX7_keep 1 := ⟨⟨kg_inT 719 (by decide +kernel) rfl, kg_inT 66 (by decide +kernel) rfl, by decide +kernel, by decide +kernel, by decide⟩, kg_inT 717 (by decide +kernel) rfl, kg_inT 718 (by decide +kernel) rfl⟩
abbrev qX7_goBack : kg_q := (yX7_goBack, cX7_goBack, 2, (some .int))
theorem mvX7_goBack : kg_MV qX7_goBack 1 := ⟨⟨kg_inT 724 (by decide +kernel) rfl, kg_inT 66 (by decide +kernel) rfl, by decide +kernel, by decide +kernel, by decide⟩, kg_inT 722 (by decide +kernel) rfl, kg_inT 723 (by decide +kernel) rfl⟩
abbrev qX8_init : kg_q := (yX8_init, cX8_init, 3, none)
theorem miX8_init : kg_MI qX8_init 0 := ⟨⟨kg_inT 729 (by decide +kernel) rfl, kg_inT 75 (by decide +kernel) rfl, by decide +kernel, by decide +kernel, by decide⟩, kg_inT 728 (by decide +kernel) rfl, rfl, rfl⟩
abbrev qX8_feed : kg_q := (yX8_feed, cX8_feed, 2, (some .int))
theorem mvX8_feed : kg_MV qX8_feed 1 := ⟨⟨kg_inT 855 (by decide +kernel) rfl, kg_inT 75 (by decide +kernel) rfl, by decide +kernel, by decide +kernel, by decide⟩, kg_inT 853 (by decide +kernel) rfl, kg_inT 854 (by decide +kernel) rfl⟩
abbrev qX8_in : kg_q := (yX8_in, cX8_in, 6, (some .boolean))
theorem msX8_in : kg_MS qX8_in 3 := ⟨⟨kg_inT 859 (by decide +kernel) rfl, kg_inT 75 (by decide +kernel) rfl, by decide +kernel, by decide +kernel, by decide⟩, kg_inT 858 (by decide +kernel) rfl⟩
abbrev qX8_common : kg_q := (yX8_common, cX8_common, 2, (some .int))
theorem mvX8_common : kg_MV qX8_common 0 := ⟨⟨kg_inT 865 (by decide +kernel) rfl, kg_inT 75 (by decide +kernel) rfl, by decide +kernel, by decide +kernel, by decide⟩, kg_inT 863 (by decide +kernel) rfl, kg_inT 864 (by decide +kernel) rfl⟩
abbrev qX8_here : kg_q := (yX8_here, cX8_here, 1, (some .int))
theorem mvX8_here : kg_MV qX8_here 0 := ⟨⟨kg_inT 869 (by decide +kernel) rfl, kg_inT 75 (by decide +kernel) rfl, by decide +kernel, by decide +kernel, by decide⟩, kg_inT 868 (by decide +kernel) rfl, kg_inT 22 (by decide +kernel) rfl⟩
abbrev qX8_takeClause : kg_q := (yX8_takeClause, cX8_takeClause, 4, (some .int))
theorem mvX8_takeClause : kg_MV qX8_takeClause 0 := ⟨⟨kg_inT 873 (by decide +kernel) rfl, kg_inT 75 (by decide +kernel) rfl, by decide +kernel, by decide +kernel, by decide⟩, kg_inT 872 (by decide +kernel) rfl, kg_inT 23 (by decide +kernel) rfl⟩
abbrev qX8_fails : kg_q := (yX8_fails, cX8_fails, 3, (some .int))
theorem mvX8_fails : kg_MV qX8_fails 2 := ⟨⟨kg_inT 877 (by decide +kernel) rfl, kg_inT 75 (by decide +kernel) rfl, by decide +kernel, by decide +kernel, by decide⟩, kg_inT 876 (by decide +kernel) rfl, kg_inT 24 (by decide +kernel) rfl⟩
abbrev qX8_takeGate : kg_q := (yX8_takeGate, cX8_takeGate, 2, (some .int))
theorem mvX8_takeGate : kg_MV qX8_takeGate 0 := ⟨⟨kg_inT 881 (by decide +kernel) rfl, kg_inT 75 (by decide +kernel) rfl, by decide +kernel, by decide +kernel, by decide⟩, kg_inT 880 (by decide +kernel) rfl, kg_inT 25 (by decide +kernel) rfl⟩
abbrev qX8_into : kg_q := (yX8_into, cX8_into, 6, (some .int))
theorem mvX8_into : kg_MV qX8_into 4 := ⟨⟨kg_inT 885 (by decide +kernel) rfl, kg_inT 75 (by decide +kernel) rfl, by decide +kernel, by decide +kernel, by decide⟩, kg_inT 884 (by decide +kernel) rfl, kg_inT 26 (by decide +kernel) rfl⟩
abbrev qX8_takeNumber : kg_q := (yX8_takeNumber, cX8_takeNumber, 4, (some .int))
theorem mvX8_takeNumber : kg_MV qX8_takeNumber 2 := ⟨⟨kg_inT 889 (by decide +kernel) rfl, kg_inT 75 (by decide +kernel) rfl, by decide +kernel, by decide +kernel, by decide⟩, kg_inT 888 (by decide +kernel) rfl, kg_inT 27 (by decide +kernel) rfl⟩
abbrev qX8_takePerson : kg_q := (yX8_takePerson, cX8_takePerson, 3, (some .int))
theorem mvX8_takePerson : kg_MV qX8_takePerson 0 := ⟨⟨kg_inT 895 (by decide +kernel) rfl, kg_inT 75 (by decide +kernel) rfl, by decide +kernel, by decide +kernel, by decide⟩, kg_inT 894 (by decide +kernel) rfl, kg_inT 28 (by decide +kernel) rfl⟩
abbrev qX8_takeLikes : kg_q := (yX8_takeLikes, cX8_takeLikes, 4, (some .int))
theorem mvX8_takeLikes : kg_MV qX8_takeLikes 0 := ⟨⟨kg_inT 899 (by decide +kernel) rfl, kg_inT 75 (by decide +kernel) rfl, by decide +kernel, by decide +kernel, by decide⟩, kg_inT 898 (by decide +kernel) rfl, kg_inT 29 (by decide +kernel) rfl⟩
abbrev qX8_takeRead : kg_q := (yX8_takeRead, cX8_takeRead, 2, none)
theorem mvX8_takeRead : kg_MV qX8_takeRead 0 := ⟨⟨kg_inT 903 (by decide +kernel) rfl, kg_inT 75 (by decide +kernel) rfl, by decide +kernel, by decide +kernel, by decide⟩, kg_inT 902 (by decide +kernel) rfl, kg_inT 30 (by decide +kernel) rfl⟩
abbrev qX8_fault : kg_q := (yX8_fault, cX8_fault, 1, (some .int))
theorem mvX8_fault : kg_MV qX8_fault 0 := ⟨⟨kg_inT 907 (by decide +kernel) rfl, kg_inT 75 (by decide +kernel) rfl, by decide +kernel, by decide +kernel, by decide⟩, kg_inT 905 (by decide +kernel) rfl, kg_inT 906 (by decide +kernel) rfl⟩
abbrev qX8_told : kg_q := (yX8_told, cX8_told, 2, (some .int))
theorem mvX8_told : kg_MV qX8_told 1 := ⟨⟨kg_inT 911 (by decide +kernel) rfl, kg_inT 75 (by decide +kernel) rfl, by decide +kernel, by decide +kernel, by decide⟩, kg_inT 909 (by decide +kernel) rfl, kg_inT 910 (by decide +kernel) rfl⟩
abbrev qX8_allWith : kg_q := (yX8_allWith, cX8_allWith, 4, (some .int))
theorem mvX8_allWith : kg_MV qX8_allWith 1 := ⟨⟨kg_inT 915 (by decide +kernel) rfl, kg_inT 75 (by decide +kernel) rfl, by decide +kernel, by decide +kernel, by decide⟩, kg_inT 914 (by decide +kernel) rfl, kg_inT 31 (by decide +kernel) rfl⟩
abbrev qX8_waiting : kg_q := (yX8_waiting, cX8_waiting, 3, (some .int))
theorem mvX8_waiting : kg_MV qX8_waiting 0 := ⟨⟨kg_inT 919 (by decide +kernel) rfl, kg_inT 75 (by decide +kernel) rfl, by decide +kernel, by decide +kernel, by decide⟩, kg_inT 918 (by decide +kernel) rfl, kg_inT 32 (by decide +kernel) rfl⟩
abbrev qX8_rusted : kg_q := (yX8_rusted, cX8_rusted, 3, (some .int))
theorem mvX8_rusted : kg_MV qX8_rusted 0 := ⟨⟨kg_inT 923 (by decide +kernel) rfl, kg_inT 75 (by decide +kernel) rfl, by decide +kernel, by decide +kernel, by decide⟩, kg_inT 922 (by decide +kernel) rfl, kg_inT 33 (by decide +kernel) rfl⟩
abbrev qX8_gate : kg_q := (yX8_gate, cX8_gate, 3, (some .int))
theorem mvX8_gate : kg_MV qX8_gate 2 := ⟨⟨kg_inT 927 (by decide +kernel) rfl, kg_inT 75 (by decide +kernel) rfl, by decide +kernel, by decide +kernel, by decide⟩, kg_inT 925 (by decide +kernel) rfl, kg_inT 926 (by decide +kernel) rfl⟩
abbrev qX8_isGate : kg_q := (yX8_isGate, cX8_isGate, 2, (some .boolean))
theorem mvX8_isGate : kg_MV qX8_isGate 1 := ⟨⟨kg_inT 931 (by decide +kernel) rfl, kg_inT 75 (by decide +kernel) rfl, by decide +kernel, by decide +kernel, by decide⟩, kg_inT 930 (by decide +kernel) rfl, kg_inT 34 (by decide +kernel) rfl⟩
abbrev qX8_waitingAt : kg_q := (yX8_waitingAt, cX8_waitingAt, 4, (some .int))
theorem mvX8_waitingAt : kg_MV qX8_waitingAt 1 := ⟨⟨kg_inT 936 (by decide +kernel) rfl, kg_inT 75 (by decide +kernel) rfl, by decide +kernel, by decide +kernel, by decide⟩, kg_inT 935 (by decide +kernel) rfl, kg_inT 35 (by decide +kernel) rfl⟩
abbrev qX8_person : kg_q := (yX8_person, cX8_person, 3, (some .int))
theorem mvX8_person : kg_MV qX8_person 2 := ⟨⟨kg_inT 940 (by decide +kernel) rfl, kg_inT 75 (by decide +kernel) rfl, by decide +kernel, by decide +kernel, by decide⟩, kg_inT 938 (by decide +kernel) rfl, kg_inT 939 (by decide +kernel) rfl⟩
abbrev qX8_isPerson : kg_q := (yX8_isPerson, cX8_isPerson, 2, (some .boolean))
theorem mvX8_isPerson : kg_MV qX8_isPerson 1 := ⟨⟨kg_inT 944 (by decide +kernel) rfl, kg_inT 75 (by decide +kernel) rfl, by decide +kernel, by decide +kernel, by decide⟩, kg_inT 943 (by decide +kernel) rfl, kg_inT 36 (by decide +kernel) rfl⟩
abbrev qX8_whomWould : kg_q := (yX8_whomWould, cX8_whomWould, 4, (some .int))
theorem mvX8_whomWould : kg_MV qX8_whomWould 1 := ⟨⟨kg_inT 948 (by decide +kernel) rfl, kg_inT 75 (by decide +kernel) rfl, by decide +kernel, by decide +kernel, by decide⟩, kg_inT 947 (by decide +kernel) rfl, kg_inT 37 (by decide +kernel) rfl⟩
abbrev qX8_would : kg_q := (yX8_would, cX8_would, 3, (some .boolean))
theorem mvX8_would : kg_MV qX8_would 2 := ⟨⟨kg_inT 952 (by decide +kernel) rfl, kg_inT 75 (by decide +kernel) rfl, by decide +kernel, by decide +kernel, by decide⟩, kg_inT 951 (by decide +kernel) rfl, kg_inT 38 (by decide +kernel) rfl⟩
abbrev qX8_like : kg_q := (yX8_like, cX8_like, 3, (some .boolean))
theorem mvX8_like : kg_MV qX8_like 2 := ⟨⟨kg_inT 956 (by decide +kernel) rfl, kg_inT 75 (by decide +kernel) rfl, by decide +kernel, by decide +kernel, by decide⟩, kg_inT 955 (by decide +kernel) rfl, kg_inT 39 (by decide +kernel) rfl⟩
abbrev qX8_likes : kg_q := (yX8_likes, cX8_likes, 3, (some .int))
theorem mvX8_likes : kg_MV qX8_likes 2 := ⟨⟨kg_inT 960 (by decide +kernel) rfl, kg_inT 75 (by decide +kernel) rfl, by decide +kernel, by decide +kernel, by decide⟩, kg_inT 958 (by decide +kernel) rfl, kg_inT 959 (by decide +kernel) rfl⟩
abbrev qX8_logged : kg_q := (yX8_logged, cX8_logged, 2, (some .int))
theorem mvX8_logged : kg_MV qX8_logged 1 := ⟨⟨kg_inT 964 (by decide +kernel) rfl, kg_inT 75 (by decide +kernel) rfl, by decide +kernel, by decide +kernel, by decide⟩, kg_inT 962 (by decide +kernel) rfl, kg_inT 963 (by decide +kernel) rfl⟩
abbrev qX8_hour : kg_q := (yX8_hour, cX8_hour, 4, (some .int))
theorem mvX8_hour : kg_MV qX8_hour 1 := ⟨⟨kg_inT 968 (by decide +kernel) rfl, kg_inT 75 (by decide +kernel) rfl, by decide +kernel, by decide +kernel, by decide⟩, kg_inT 966 (by decide +kernel) rfl, kg_inT 967 (by decide +kernel) rfl⟩
abbrev qX8_hoursRefused : kg_q := (yX8_hoursRefused, cX8_hoursRefused, 2, (some .int))
theorem mvX8_hoursRefused : kg_MV qX8_hoursRefused 1 := ⟨⟨kg_inT 972 (by decide +kernel) rfl, kg_inT 75 (by decide +kernel) rfl, by decide +kernel, by decide +kernel, by decide⟩, kg_inT 971 (by decide +kernel) rfl, kg_inT 40 (by decide +kernel) rfl⟩
abbrev qX8_remember : kg_q := (yX8_remember, cX8_remember, 2, none)
theorem mvX8_remember : kg_MV qX8_remember 0 := ⟨⟨kg_inT 978 (by decide +kernel) rfl, kg_inT 75 (by decide +kernel) rfl, by decide +kernel, by decide +kernel, by decide⟩, kg_inT 977 (by decide +kernel) rfl, kg_inT 41 (by decide +kernel) rfl⟩
abbrev qX8_pass : kg_q := (yX8_pass, cX8_pass, 3, none)
theorem mvX8_pass : kg_MV qX8_pass 0 := ⟨⟨kg_inT 982 (by decide +kernel) rfl, kg_inT 75 (by decide +kernel) rfl, by decide +kernel, by decide +kernel, by decide⟩, kg_inT 981 (by decide +kernel) rfl, kg_inT 42 (by decide +kernel) rfl⟩
abbrev qX8_pairAt : kg_q := (yX8_pairAt, cX8_pairAt, 7, (some .int))
theorem mvX8_pairAt : kg_MV qX8_pairAt 1 := ⟨⟨kg_inT 986 (by decide +kernel) rfl, kg_inT 75 (by decide +kernel) rfl, by decide +kernel, by decide +kernel, by decide⟩, kg_inT 985 (by decide +kernel) rfl, kg_inT 43 (by decide +kernel) rfl⟩
abbrev qX8_both : kg_q := (yX8_both, cX8_both, 3, (some .int))
theorem mvX8_both : kg_MV qX8_both 2 := ⟨⟨kg_inT 990 (by decide +kernel) rfl, kg_inT 75 (by decide +kernel) rfl, by decide +kernel, by decide +kernel, by decide⟩, kg_inT 989 (by decide +kernel) rfl, kg_inT 44 (by decide +kernel) rfl⟩
abbrev qX8_meet : kg_q := (yX8_meet, cX8_meet, 4, none)
theorem mvX8_meet : kg_MV qX8_meet 2 := ⟨⟨kg_inT 994 (by decide +kernel) rfl, kg_inT 75 (by decide +kernel) rfl, by decide +kernel, by decide +kernel, by decide⟩, kg_inT 993 (by decide +kernel) rfl, kg_inT 45 (by decide +kernel) rfl⟩
abbrev qX8_log : kg_q := (yX8_log, cX8_log, 3, none)
theorem mvX8_log : kg_MV qX8_log 1 := ⟨⟨kg_inT 998 (by decide +kernel) rfl, kg_inT 75 (by decide +kernel) rfl, by decide +kernel, by decide +kernel, by decide⟩, kg_inT 997 (by decide +kernel) rfl, kg_inT 46 (by decide +kernel) rfl⟩
abbrev qX8_come : kg_q := (yX8_come, cX8_come, 3, (some .int))
theorem mvX8_come : kg_MV qX8_come 2 := ⟨⟨kg_inT 1002 (by decide +kernel) rfl, kg_inT 75 (by decide +kernel) rfl, by decide +kernel, by decide +kernel, by decide⟩, kg_inT 1000 (by decide +kernel) rfl, kg_inT 1001 (by decide +kernel) rfl⟩
abbrev qX8_canCome : kg_q := (yX8_canCome, cX8_canCome, 3, (some .boolean))
theorem mvX8_canCome : kg_MV qX8_canCome 2 := ⟨⟨kg_inT 1006 (by decide +kernel) rfl, kg_inT 75 (by decide +kernel) rfl, by decide +kernel, by decide +kernel, by decide⟩, kg_inT 1005 (by decide +kernel) rfl, kg_inT 47 (by decide +kernel) rfl⟩
abbrev qX8_goOff : kg_q := (yX8_goOff, cX8_goOff, 3, (some .int))
theorem mvX8_goOff : kg_MV qX8_goOff 1 := ⟨⟨kg_inT 1010 (by decide +kernel) rfl, kg_inT 75 (by decide +kernel) rfl, by decide +kernel, by decide +kernel, by decide⟩, kg_inT 1008 (by decide +kernel) rfl, kg_inT 1009 (by decide +kernel) rfl⟩
abbrev qX8_hole : kg_q := (yX8_hole, cX8_hole, 2, (some .int))
theorem mvX8_hole : kg_MV qX8_hole 1 := ⟨⟨kg_inT 1014 (by decide +kernel) rfl, kg_inT 75 (by decide +kernel) rfl, by decide +kernel, by decide +kernel, by decide⟩, kg_inT 1012 (by decide +kernel) rfl, kg_inT 1013 (by decide +kernel) rfl⟩
abbrev qX8_oil : kg_q := (yX8_oil, cX8_oil, 3, (some .int))
theorem mvX8_oil : kg_MV qX8_oil 1 := ⟨⟨kg_inT 1018 (by decide +kernel) rfl, kg_inT 75 (by decide +kernel) rfl, by decide +kernel, by decide +kernel, by decide⟩, kg_inT 1016 (by decide +kernel) rfl, kg_inT 1017 (by decide +kernel) rfl⟩
abbrev qX8_well : kg_q := (yX8_well, cX8_well, 3, (some .int))
theorem mvX8_well : kg_MV qX8_well 1 := ⟨⟨kg_inT 1022 (by decide +kernel) rfl, kg_inT 75 (by decide +kernel) rfl, by decide +kernel, by decide +kernel, by decide⟩, kg_inT 1020 (by decide +kernel) rfl, kg_inT 1021 (by decide +kernel) rfl⟩
abbrev qX8_drift : kg_q := (yX8_drift, cX8_drift, 4, (some .int))
theorem mvX8_drift : kg_MV qX8_drift 1 := ⟨⟨kg_inT 1026 (by decide +kernel) rfl, kg_inT 75 (by decide +kernel) rfl, by decide +kernel, by decide +kernel, by decide⟩, kg_inT 1024 (by decide +kernel) rfl, kg_inT 1025 (by decide +kernel) rfl⟩
abbrev qX8_chance : kg_q := (yX8_chance, cX8_chance, 3, none)
theorem mvX8_chance : kg_MV qX8_chance 0 := ⟨⟨kg_inT 1030 (by decide +kernel) rfl, kg_inT 75 (by decide +kernel) rfl, by decide +kernel, by decide +kernel, by decide⟩, kg_inT 1029 (by decide +kernel) rfl, kg_inT 48 (by decide +kernel) rfl⟩
abbrev qX8_draw : kg_q := (yX8_draw, cX8_draw, 2, (some .int))
theorem mvX8_draw : kg_MV qX8_draw 1 := ⟨⟨kg_inT 1034 (by decide +kernel) rfl, kg_inT 75 (by decide +kernel) rfl, by decide +kernel, by decide +kernel, by decide⟩, kg_inT 1033 (by decide +kernel) rfl, kg_inT 49 (by decide +kernel) rfl⟩
abbrev qX8_undo : kg_q := (yX8_undo, cX8_undo, 2, (some .int))
theorem mvX8_undo : kg_MV qX8_undo 0 := ⟨⟨kg_inT 1042 (by decide +kernel) rfl, kg_inT 75 (by decide +kernel) rfl, by decide +kernel, by decide +kernel, by decide⟩, kg_inT 1040 (by decide +kernel) rfl, kg_inT 1041 (by decide +kernel) rfl⟩
abbrev qX8_atOnce : kg_q := (yX8_atOnce, cX8_atOnce, 2, (some .int))
theorem mvX8_atOnce : kg_MV qX8_atOnce 1 := ⟨⟨kg_inT 1046 (by decide +kernel) rfl, kg_inT 75 (by decide +kernel) rfl, by decide +kernel, by decide +kernel, by decide⟩, kg_inT 1044 (by decide +kernel) rfl, kg_inT 1045 (by decide +kernel) rfl⟩
abbrev qX8_findAtOnce : kg_q := (yX8_findAtOnce, cX8_findAtOnce, 8, none)
theorem mvX8_findAtOnce : kg_MV qX8_findAtOnce 0 := ⟨⟨kg_inT 1050 (by decide +kernel) rfl, kg_inT 75 (by decide +kernel) rfl, by decide +kernel, by decide +kernel, by decide⟩, kg_inT 1049 (by decide +kernel) rfl, kg_inT 50 (by decide +kernel) rfl⟩
abbrev qX8_openGates : kg_q := (yX8_openGates, cX8_openGates, 1, (some .int))
theorem mvX8_openGates : kg_MV qX8_openGates 0 := ⟨⟨kg_inT 1054 (by decide +kernel) rfl, kg_inT 75 (by decide +kernel) rfl, by decide +kernel, by decide +kernel, by decide⟩, kg_inT 1053 (by decide +kernel) rfl, kg_inT 51 (by decide +kernel) rfl⟩
abbrev qX8_bits : kg_q := (yX8_bits, cX8_bits, 3, (some .int))
theorem msX8_bits : kg_MS qX8_bits 1 := ⟨⟨kg_inT 1057 (by decide +kernel) rfl, kg_inT 75 (by decide +kernel) rfl, by decide +kernel, by decide +kernel, by decide⟩, kg_inT 1056 (by decide +kernel) rfl⟩
abbrev qX8_choose : kg_q := (yX8_choose, cX8_choose, 7, (some .int))
theorem mvX8_choose : kg_MV qX8_choose 1 := ⟨⟨kg_inT 1061 (by decide +kernel) rfl, kg_inT 75 (by decide +kernel) rfl, by decide +kernel, by decide +kernel, by decide⟩, kg_inT 1060 (by decide +kernel) rfl, kg_inT 52 (by decide +kernel) rfl⟩
abbrev qX8_pairBits : kg_q := (yX8_pairBits, cX8_pairBits, 2, (some .int))
theorem mvX8_pairBits : kg_MV qX8_pairBits 1 := ⟨⟨kg_inT 1065 (by decide +kernel) rfl, kg_inT 75 (by decide +kernel) rfl, by decide +kernel, by decide +kernel, by decide⟩, kg_inT 1064 (by decide +kernel) rfl, kg_inT 53 (by decide +kernel) rfl⟩
abbrev qX8_pairUp : kg_q := (yX8_pairUp, cX8_pairUp, 4, (some .boolean))
theorem mvX8_pairUp : kg_MV qX8_pairUp 0 := ⟨⟨kg_inT 1069 (by decide +kernel) rfl, kg_inT 75 (by decide +kernel) rfl, by decide +kernel, by decide +kernel, by decide⟩, kg_inT 1068 (by decide +kernel) rfl, kg_inT 54 (by decide +kernel) rfl⟩
abbrev qX8_isFirst : kg_q := (yX8_isFirst, cX8_isFirst, 2, (some .boolean))
theorem mvX8_isFirst : kg_MV qX8_isFirst 0 := ⟨⟨kg_inT 1073 (by decide +kernel) rfl, kg_inT 75 (by decide +kernel) rfl, by decide +kernel, by decide +kernel, by decide⟩, kg_inT 1072 (by decide +kernel) rfl, kg_inT 55 (by decide +kernel) rfl⟩
abbrev qX8_sides : kg_q := (yX8_sides, cX8_sides, 5, (some .int))
theorem mvX8_sides : kg_MV qX8_sides 2 := ⟨⟨kg_inT 1077 (by decide +kernel) rfl, kg_inT 75 (by decide +kernel) rfl, by decide +kernel, by decide +kernel, by decide⟩, kg_inT 1075 (by decide +kernel) rfl, kg_inT 1076 (by decide +kernel) rfl⟩
abbrev qX8_isSet : kg_q := (yX8_isSet, cX8_isSet, 2, (some .boolean))
theorem mvX8_isSet : kg_MV qX8_isSet 1 := ⟨⟨kg_inT 1081 (by decide +kernel) rfl, kg_inT 75 (by decide +kernel) rfl, by decide +kernel, by decide +kernel, by decide⟩, kg_inT 1080 (by decide +kernel) rfl, kg_inT 56 (by decide +kernel) rfl⟩
abbrev qX8_findMasks : kg_q := (yX8_findMasks, cX8_findMasks, 4, none)
theorem mvX8_findMasks : kg_MV qX8_findMasks 0 := ⟨⟨kg_inT 1085 (by decide +kernel) rfl, kg_inT 75 (by decide +kernel) rfl, by decide +kernel, by decide +kernel, by decide⟩, kg_inT 1084 (by decide +kernel) rfl, kg_inT 57 (by decide +kernel) rfl⟩
abbrev qX8_isThere : kg_q := (yX8_isThere, cX8_isThere, 4, (some .boolean))
theorem mvX8_isThere : kg_MV qX8_isThere 2 := ⟨⟨kg_inT 1089 (by decide +kernel) rfl, kg_inT 75 (by decide +kernel) rfl, by decide +kernel, by decide +kernel, by decide⟩, kg_inT 1088 (by decide +kernel) rfl, kg_inT 58 (by decide +kernel) rfl⟩
abbrev qX8_anHour : kg_q := (yX8_anHour, cX8_anHour, 4, none)
theorem mvX8_anHour : kg_MV qX8_anHour 0 := ⟨⟨kg_inT 1093 (by decide +kernel) rfl, kg_inT 75 (by decide +kernel) rfl, by decide +kernel, by decide +kernel, by decide⟩, kg_inT 1092 (by decide +kernel) rfl, kg_inT 59 (by decide +kernel) rfl⟩
abbrev qX8_canMeet : kg_q := (yX8_canMeet, cX8_canMeet, 7, (some .boolean))
theorem mvX8_canMeet : kg_MV qX8_canMeet 2 := ⟨⟨kg_inT 1097 (by decide +kernel) rfl, kg_inT 75 (by decide +kernel) rfl, by decide +kernel, by decide +kernel, by decide⟩, kg_inT 1096 (by decide +kernel) rfl, kg_inT 60 (by decide +kernel) rfl⟩
abbrev qX8_apart : kg_q := (yX8_apart, cX8_apart, 3, (some .boolean))
theorem msX8_apart : kg_MS qX8_apart 3 := ⟨⟨kg_inT 1100 (by decide +kernel) rfl, kg_inT 75 (by decide +kernel) rfl, by decide +kernel, by decide +kernel, by decide⟩, kg_inT 1099 (by decide +kernel) rfl⟩
abbrev qX8_has : kg_q := (yX8_has, cX8_has, 2, (some .boolean))
theorem msX8_has : kg_MS qX8_has 2 := ⟨⟨kg_inT 1103 (by decide +kernel) rfl, kg_inT 75 (by decide +kernel) rfl, by decide +kernel, by decide +kernel, by decide⟩, kg_inT 1102 (by decide +kernel) rfl⟩
abbrev qX8_steady : kg_q := (yX8_steady, cX8_steady, 4, (some .int))
theorem mvX8_steady : kg_MV qX8_steady 0 := ⟨⟨kg_inT 1107 (by decide +kernel) rfl, kg_inT 75 (by decide +kernel) rfl, by decide +kernel, by decide +kernel, by decide⟩, kg_inT 1105 (by decide +kernel) rfl, kg_inT 1106 (by decide +kernel) rfl⟩
abbrev qX8_likesNow : kg_q := (yX8_likesNow, cX8_likesNow, 2, (some .int))
theorem mvX8_likesNow : kg_MV qX8_likesNow 1 := ⟨⟨kg_inT 1111 (by decide +kernel) rfl, kg_inT 75 (by decide +kernel) rfl, by decide +kernel, by decide +kernel, by decide⟩, kg_inT 1110 (by decide +kernel) rfl, kg_inT 61 (by decide +kernel) rfl⟩
abbrev qX8_loves : kg_q := (yX8_loves, cX8_loves, 6, (some .int))
theorem mvX8_loves : kg_MV qX8_loves 1 := ⟨⟨kg_inT 1115 (by decide +kernel) rfl, kg_inT 75 (by decide +kernel) rfl, by decide +kernel, by decide +kernel, by decide⟩, kg_inT 1113 (by decide +kernel) rfl, kg_inT 1114 (by decide +kernel) rfl⟩
abbrev qX8_mostLiked : kg_q := (yX8_mostLiked, cX8_mostLiked, 4, (some .int))
theorem mvX8_mostLiked : kg_MV qX8_mostLiked 1 := ⟨⟨kg_inT 1119 (by decide +kernel) rfl, kg_inT 75 (by decide +kernel) rfl, by decide +kernel, by decide +kernel, by decide⟩, kg_inT 1118 (by decide +kernel) rfl, kg_inT 62 (by decide +kernel) rfl⟩
abbrev qX8_first : kg_q := (yX8_first, cX8_first, 4, (some .int))
theorem mvX8_first : kg_MV qX8_first 0 := ⟨⟨kg_inT 1123 (by decide +kernel) rfl, kg_inT 75 (by decide +kernel) rfl, by decide +kernel, by decide +kernel, by decide⟩, kg_inT 1121 (by decide +kernel) rfl, kg_inT 1122 (by decide +kernel) rfl⟩
abbrev qX8_madeIll : kg_q := (yX8_madeIll, cX8_madeIll, 5, (some .int))
theorem mvX8_madeIll : kg_MV qX8_madeIll 1 := ⟨⟨kg_inT 1127 (by decide +kernel) rfl, kg_inT 75 (by decide +kernel) rfl, by decide +kernel, by decide +kernel, by decide⟩, kg_inT 1126 (by decide +kernel) rfl, kg_inT 63 (by decide +kernel) rfl⟩
abbrev qX8_dies : kg_q := (yX8_dies, cX8_dies, 5, (some .int))
theorem mvX8_dies : kg_MV qX8_dies 1 := ⟨⟨kg_inT 1131 (by decide +kernel) rfl, kg_inT 75 (by decide +kernel) rfl, by decide +kernel, by decide +kernel, by decide⟩, kg_inT 1129 (by decide +kernel) rfl, kg_inT 1130 (by decide +kernel) rfl⟩
abbrev qX8_oilFor : kg_q := (yX8_oilFor, cX8_oilFor, 7, (some .int))
theorem mvX8_oilFor : kg_MV qX8_oilFor 1 := ⟨⟨kg_inT 1135 (by decide +kernel) rfl, kg_inT 75 (by decide +kernel) rfl, by decide +kernel, by decide +kernel, by decide⟩, kg_inT 1133 (by decide +kernel) rfl, kg_inT 1134 (by decide +kernel) rfl⟩
abbrev qX8_evening : kg_q := (yX8_evening, cX8_evening, 2, (some .int))
theorem mvX8_evening : kg_MV qX8_evening 1 := ⟨⟨kg_inT 1140 (by decide +kernel) rfl, kg_inT 75 (by decide +kernel) rfl, by decide +kernel, by decide +kernel, by decide⟩, kg_inT 1138 (by decide +kernel) rfl, kg_inT 1139 (by decide +kernel) rfl⟩
abbrev qX8_dry : kg_q := (yX8_dry, cX8_dry, 6, (some .int))
theorem mvX8_dry : kg_MV qX8_dry 2 := ⟨⟨kg_inT 1144 (by decide +kernel) rfl, kg_inT 75 (by decide +kernel) rfl, by decide +kernel, by decide +kernel, by decide⟩, kg_inT 1142 (by decide +kernel) rfl, kg_inT 1143 (by decide +kernel) rfl⟩
abbrev qX8_ill : kg_q := (yX8_ill, cX8_ill, 3, (some .int))
theorem mvX8_ill : kg_MV qX8_ill 2 := ⟨⟨kg_inT 1150 (by decide +kernel) rfl, kg_inT 75 (by decide +kernel) rfl, by decide +kernel, by decide +kernel, by decide⟩, kg_inT 1148 (by decide +kernel) rfl, kg_inT 1149 (by decide +kernel) rfl⟩
abbrev qX8_mayBe : kg_q := (yX8_mayBe, cX8_mayBe, 1, (some .int))
theorem mvX8_mayBe : kg_MV qX8_mayBe 0 := ⟨⟨kg_inT 1154 (by decide +kernel) rfl, kg_inT 75 (by decide +kernel) rfl, by decide +kernel, by decide +kernel, by decide⟩, kg_inT 1152 (by decide +kernel) rfl, kg_inT 1153 (by decide +kernel) rfl⟩
abbrev qX8_couldBe : kg_q := (yX8_couldBe, cX8_couldBe, 5, (some .int))
theorem mvX8_couldBe : kg_MV qX8_couldBe 0 := ⟨⟨kg_inT 1158 (by decide +kernel) rfl, kg_inT 75 (by decide +kernel) rfl, by decide +kernel, by decide +kernel, by decide⟩, kg_inT 1157 (by decide +kernel) rfl, kg_inT 64 (by decide +kernel) rfl⟩
abbrev qX8_ask : kg_q := (yX8_ask, cX8_ask, 8, (some .int))
theorem mvX8_ask : kg_MV qX8_ask 0 := ⟨⟨kg_inT 1162 (by decide +kernel) rfl, kg_inT 75 (by decide +kernel) rfl, by decide +kernel, by decide +kernel, by decide⟩, kg_inT 1160 (by decide +kernel) rfl, kg_inT 1161 (by decide +kernel) rfl⟩
abbrev qX8_write : kg_q := (yX8_write, cX8_write, 3, (some .int))
theorem mvX8_write : kg_MV qX8_write 2 := ⟨⟨kg_inT 1166 (by decide +kernel) rfl, kg_inT 75 (by decide +kernel) rfl, by decide +kernel, by decide +kernel, by decide⟩, kg_inT 1164 (by decide +kernel) rfl, kg_inT 1165 (by decide +kernel) rfl⟩
abbrev qX8_tear : kg_q := (yX8_tear, cX8_tear, 2, (some .int))
theorem mvX8_tear : kg_MV qX8_tear 0 := ⟨⟨kg_inT 1170 (by decide +kernel) rfl, kg_inT 75 (by decide +kernel) rfl, by decide +kernel, by decide +kernel, by decide⟩, kg_inT 1168 (by decide +kernel) rfl, kg_inT 1169 (by decide +kernel) rfl⟩
abbrev qX8_judge : kg_q := (yX8_judge, cX8_judge, 2, (some .int))
theorem mvX8_judge : kg_MV qX8_judge 0 := ⟨⟨kg_inT 1174 (by decide +kernel) rfl, kg_inT 75 (by decide +kernel) rfl, by decide +kernel, by decide +kernel, by decide⟩, kg_inT 1172 (by decide +kernel) rfl, kg_inT 1173 (by decide +kernel) rfl⟩
abbrev qX8_seed : kg_q := (yX8_seed, cX8_seed, 3, (some .int))
theorem mvX8_seed : kg_MV qX8_seed 1 := ⟨⟨kg_inT 1178 (by decide +kernel) rfl, kg_inT 75 (by decide +kernel) rfl, by decide +kernel, by decide +kernel, by decide⟩, kg_inT 1176 (by decide +kernel) rfl, kg_inT 1177 (by decide +kernel) rfl⟩
abbrev qX8_keep : kg_q := (yX8_keep, cX8_keep, 3, (some .int))
theorem mvX8_keep : kg_MV qX8_keep 1 := ⟨⟨kg_inT 1182 (by decide +kernel) rfl, kg_inT 75 (by decide +kernel) rfl, by decide +kernel, by decide +kernel, by decide⟩, kg_inT 1180 (by decide +kernel) rfl, kg_inT 1181 (by decide +kernel) rfl⟩
abbrev qX8_goBack : kg_q := (yX8_goBack, cX8_goBack, 3, (some .int))
theorem mvX8_goBack : kg_MV qX8_goBack 1 := ⟨⟨kg_inT 1186 (by decide +kernel) rfl, kg_inT 75 (by decide +kernel) rfl, by decide +kernel, by decide +kernel, by decide⟩, kg_inT 1184 (by decide +kernel) rfl, kg_inT 1185 (by decide +kernel) rfl⟩
end
section
theorem kg_mmax1 : Cond.static Lib.Math.max.name ∈ kg_T := kg_inT 659 (by decide +kernel) rfl
theorem kg_mmax2 : Cond.code Lib.Math.max.name Lib.Math.max.code 2 (some .int) ∈ kg_T := kg_inT 660 (by decide +kernel) rfl
theorem kg_mmin1 : Cond.static Lib.Math.min.name ∈ kg_T := kg_inT 499 (by decide +kernel) rfl
theorem kg_mmin2 : Cond.code Lib.Math.min.name Lib.Math.min.code 2 (some .int) ∈ kg_T := kg_inT 500 (by decide +kernel) rfl
theorem kg_tMath : Cond.initialized "java/lang/Math" ∈ kg_T := kg_inT 77 (by decide +kernel) rfl
section KX
variable {G : kg_G} {E : State → Array Value → Prop} {q : kg_q} {d pc : Nat} {lv : List (Nat × Value)} {st : List Value} {M : kg_M} {R : kg_R} {n kc ks : Nat} {Post : kg_Post}
theorem kr_mmax {i : Nat} {x y : Int32} (hlk : Cond.methodLink q.1.cls i Lib.Math.max.name ∈ kg_T) (hst : (st.map fun v => v.category).sum ≤ 8) (hd : decode q.2.1 pc = .ok (.invokestatic i, 3)) (k : kg_Run G E q d (pc + 3) lv (.int (if x < y then y else x) :: st) M R n kc ks Post) : kg_Run G E q d pc lv (.int y :: .int x :: st) M R n kc ks Post := by
  intro p e Ro s m args below meth c Q mc ms C hE hm1 hm2 hR H locs cells slots ls hH hS hc hs hl
  obtain ⟨hx, hb, hml, hown, hts, hK, hbs, hfr, hlo, hin⟩ := id C
  exact va_mmax hx hb (by rw [hml]; exact hl.1.symm) hown (hts _ hlk) (hts _ kg_mmax1) (hts _ kg_tMath) (hts _ kg_mmax2) (by omega) (by omega) (by omega) (by omega) hd (k p e Ro s m args below meth c Q mc ms C hE hm1 hm2 hR H locs cells slots ls hH hS hc hs hl)
theorem kr_mmin {i : Nat} {x y : Int32} (hlk : Cond.methodLink q.1.cls i Lib.Math.min.name ∈ kg_T) (hst : (st.map fun v => v.category).sum ≤ 8) (hd : decode q.2.1 pc = .ok (.invokestatic i, 3)) (k : kg_Run G E q d (pc + 3) lv (.int (if y < x then y else x) :: st) M R n kc ks Post) : kg_Run G E q d pc lv (.int y :: .int x :: st) M R n kc ks Post := by
  intro p e Ro s m args below meth c Q mc ms C hE hm1 hm2 hR H locs cells slots ls hH hS hc hs hl
  obtain ⟨hx, hb, hml, hown, hts, hK, hbs, hfr, hlo, hin⟩ := id C
  exact va_mmin hx hb (by rw [hml]; exact hl.1.symm) hown (hts _ hlk) (hts _ kg_mmin1) (hts _ kg_tMath) (hts _ kg_mmin2) (by omega) (by omega) (by omega) (by omega) hd (k p e Ro s m args below meth c Q mc ms C hE hm1 hm2 hR H locs cells slots ls hH hS hc hs hl)
theorem kr_sld {b L : Nat} {xs : Nat → Int32} {i : Int32} (hE2 : ∀ s args, E s args → va_X b L xs s s.heap ∧ b < s.heap.size ∧ b < kg_b G) (hi : vp_in i L) (hd : decode q.2.1 pc = .ok (.iaload, 1)) (k : kg_Run G E q d (pc + 1) lv (.int (xs i.toNatClampNeg) :: st) M R n kc ks Post) : kg_Run G E q d pc lv (.int i :: .ref b :: st) M R n kc ks Post := by
  intro p e Ro s m args below meth c Q mc ms C hE hm1 hm2 hR H locs cells slots ls hH hS hc hs hl
  obtain ⟨hx, hb, hml, hown, hts, hK, hbs, hfr, hlo, hin⟩ := id C
  obtain ⟨hX, hb1, hb2⟩ := hE2 s args hE
  exact va_sld (A := kg_A G) hx hb hX hb1 (Nat.not_le.mpr hb2) hS hi hd (k p e Ro s m args below meth c Q mc ms C hE hm1 hm2 hR H locs cells slots ls hH hS hc hs hl)
theorem kr_slen {b L : Nat} {xs : Nat → Int32} (hE2 : ∀ s args, E s args → va_X b L xs s s.heap ∧ b < s.heap.size ∧ b < kg_b G) (hd : decode q.2.1 pc = .ok (.arraylength, 1)) (k : kg_Run G E q d (pc + 1) lv (.int (nI L) :: st) M R n kc ks Post) : kg_Run G E q d pc lv (.ref b :: st) M R n kc ks Post := by
  intro p e Ro s m args below meth c Q mc ms C hE hm1 hm2 hR H locs cells slots ls hH hS hc hs hl
  obtain ⟨hx, hb, hml, hown, hts, hK, hbs, hfr, hlo, hin⟩ := id C
  obtain ⟨hX, hb1, hb2⟩ := hE2 s args hE
  exact va_slen (A := kg_A G) hx hb hX hb1 (Nat.not_le.mpr hb2) hS hd (k p e Ro s m args below meth c Q mc ms C hE hm1 hm2 hR H locs cells slots ls hH hS hc hs hl)
end KX
end
